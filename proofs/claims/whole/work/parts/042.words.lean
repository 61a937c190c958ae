/-! The words of the tables that the small machine's links need, found by the kernel. -/
def AW : List Cond := lw_tbl.filter goodWord
theorem aw_of {w : Cond} (h : (decide (w ∈ tables_1) && goodWord w) = true) : w ∈ AW := by
  simp only [Bool.and_eq_true, decide_eq_true_eq] at h
  exact List.mem_filter.mpr ⟨List.mem_append_right _ h.1, h.2⟩
theorem aw_of2 {w : Cond} (h : (decide (w ∈ lw_tbl) && goodWord w) = true) : w ∈ AW := by
  simp only [Bool.and_eq_true, decide_eq_true_eq] at h
  exact List.mem_filter.mpr h
def wOK (w : Cond) : Bool := decide (w ∈ tables_1) && goodWord w
theorem wOK_in {w : Cond} (h : wOK w = true) : w ∈ AW := aw_of h
theorem aw_good : GoodIn AW AW := fun w hw => ⟨hw, good_of_word (List.mem_filter.mp hw).2⟩
theorem aw_tbl {args : Array Value} {s : State} (h : ∀ w ∈ lw_tbl, w.before args s = true) : ∀ w ∈ AW, w.before args s = true := fun w hw => h w (List.mem_filter.mp hw).1
def fldOK (q : Nat × Nat × Nat) : Bool := match vwCl[q.2.2 / 32]? with
  | some (_, T, N) => decide (q.2.2 % 32 < N) && wOK (.fieldLink (ownS q.1) q.2.1 (T (q.2.2 % 32)).1 (T (q.2.2 % 32)).2.1 (T (q.2.2 % 32)).2.2.1)
  | none => false
theorem fld_all : fldL.all fldOK = true := by decide +kernel
theorem u0 : (u_ws RX0 TX0 4).all wOK = true := by decide +kernel
theorem u1 : (u_ws RX1 TX1 1).all wOK = true := by decide +kernel
theorem u2 : (u_ws RX2 TX2 3).all wOK = true := by decide +kernel
theorem u3 : (u_ws RX3 TX3 3).all wOK = true := by decide +kernel
theorem u4 : (u_ws RX4 TX4 2).all wOK = true := by decide +kernel
theorem u5 : (u_ws RX5 TX5 8).all wOK = true := by decide +kernel
theorem u6 : (u_ws RX6 TX6 28).all wOK = true := by decide +kernel
def tyL (ci : Nat) : Nat → FieldType := match ci with
  | 0 => tyX0
  | 1 => tyX1
  | 2 => tyX2
  | 3 => tyX3
  | 4 => tyX4
  | 5 => tyX5
  | _ => tyX6
/-- what the tables say of class number ci -/
theorem cls_ok {ci : Nat} {C : String} {T : u_T} {N : Nat} (h : vwCl[ci]? = some (C, T, N)) : (∀ w ∈ u_ws C T N, w ∈ AW) ∧ (∀ k, k < N → parseFieldDescriptor (T k).2.2.1 = some (tyL ci k)) ∧ (∀ a, a < N → ∀ b, b < N → a ≠ b → (T a).2.1 ≠ (T b).2.1) ∧ ci < 7 := by
  match ci, h with
  | 0, h => cases h; exact ⟨fun w hw => wOK_in (List.all_eq_true.mp u0 w hw), tyX0_ok, nmX0, by decide⟩
  | 1, h => cases h; exact ⟨fun w hw => wOK_in (List.all_eq_true.mp u1 w hw), tyX1_ok, nmX1, by decide⟩
  | 2, h => cases h; exact ⟨fun w hw => wOK_in (List.all_eq_true.mp u2 w hw), tyX2_ok, nmX2, by decide⟩
  | 3, h => cases h; exact ⟨fun w hw => wOK_in (List.all_eq_true.mp u3 w hw), tyX3_ok, nmX3, by decide⟩
  | 4, h => cases h; exact ⟨fun w hw => wOK_in (List.all_eq_true.mp u4 w hw), tyX4_ok, nmX4, by decide⟩
  | 5, h => cases h; exact ⟨fun w hw => wOK_in (List.all_eq_true.mp u5 w hw), tyX5_ok, nmX5, by decide⟩
  | 6, h => cases h; exact ⟨fun w hw => wOK_in (List.all_eq_true.mp u6 w hw), tyX6_ok, nmX6, by decide⟩
  | k + 7, h => simp [vwCl] at h
theorem fld_ok {cn x n : Nat} (h : lk fldL cn x = some n) : ∃ C T N, vwCl[n / 32]? = some (C, T, N) ∧ n % 32 < N ∧ Cond.fieldLink (ownS cn) x (T (n % 32)).1 (T (n % 32)).2.1 (T (n % 32)).2.2.1 ∈ AW := by
  have h1 := List.all_eq_true.mp fld_all _ (lk_mem h)
  unfold fldOK at h1
  dsimp only at h1
  split at h1
  · rename_i C T N hv
    simp only [Bool.and_eq_true, decide_eq_true_eq] at h1
    exact ⟨C, T, N, hv, h1.1, wOK_in h1.2⟩
  · cases h1
def ldcOK (q : Nat × Nat × Int) : Bool := wOK (.constant (ownS q.1) q.2.1 (Int32.ofInt q.2.2))
theorem ldc_all : ldcL.all ldcOK = true := by decide +kernel
def ldc2OK (q : Nat × Nat × Int) : Bool := wOK (.constantLong (ownS q.1) q.2.1 (Int64.ofInt q.2.2))
theorem ldc2_all : ldc2L.all ldc2OK = true := by decide +kernel
def newOK (q : Nat × Nat × Nat) : Bool := match vwCl[q.2.2]? with
  | some (C, _, N) => wOK (.classLink (ownS q.1) q.2.1 C) && wOK (.instantiable C N) && wOK (.initialized C)
  | none => false
theorem new_all : newL.all newOK = true := by decide +kernel
theorem new_ok {cn x n : Nat} (h : lk newL cn x = some n) : ∃ C T N, vwCl[n]? = some (C, T, N) ∧ Cond.classLink (ownS cn) x C ∈ AW ∧ Cond.instantiable C N ∈ AW ∧ Cond.initialized C ∈ AW := by
  have h1 := List.all_eq_true.mp new_all _ (lk_mem h)
  unfold newOK at h1
  dsimp only at h1
  split at h1
  · rename_i C T N hv
    simp only [Bool.and_eq_true] at h1
    exact ⟨C, T, N, hv, wOK_in h1.1.1, wOK_in h1.1.2, wOK_in h1.2⟩
  · cases h1
theorem ac_i : Cond.arrayClass .int ∈ AW := wOK_in (by decide +kernel)
theorem ac_l : Cond.arrayClass .long ∈ AW := wOK_in (by decide +kernel)
theorem ac_z : Cond.arrayClass .boolean ∈ AW := wOK_in (by decide +kernel)
theorem ob_1 : Cond.instanceMethod Lib.objectInit ∈ AW := wOK_in (by decide +kernel)
theorem ob_2 : Cond.code Lib.objectInit ⟨#[0xb1]⟩ 1 none ∈ AW := wOK_in (by decide +kernel)
theorem am {w : Cond} (i : Nat) (h : tables_1[i]? = some w) (g : goodWord w = true) : w ∈ AW := List.mem_filter.mpr ⟨List.mem_append_right _ (List.mem_of_getElem? h), g⟩
theorem am2 {w : Cond} (i : Nat) (h : lw_tbl[i]? = some w) (g : goodWord w = true) : w ∈ AW := List.mem_filter.mpr ⟨List.mem_of_getElem? h, g⟩
/-- a method's own words -/
def Mw (k : Nat) : Prop := Cond.code (yM k) (cM k) (mlT.getD k 0) (rtF k) ∈ AW ∧ Cond.initialized (yM k).cls ∈ AW ∧ plainName (yM k).cls = true ∧ ((yM k).cls ≠ "java/lang/invoke/MethodHandle" ∧ (yM k).cls ≠ "java/lang/invoke/VarHandle") ∧ (yM k).cls = ownS (clT.getD k 99) ∧
  (kdT.getD k 0 = 0 → Cond.static (yM k) ∈ AW ∧ (parseMethodDescriptor (yM k).desc).map (fun d => d.parameters.length) = some (naT.getD k 99)) ∧
  (kdT.getD k 0 = 1 → Cond.instanceMethod (yM k) ∈ AW ∧ Cond.selects (yM k).cls (yM k) (yM k) ∈ AW ∧ (parseMethodDescriptor (yM k).desc).map (fun d => d.parameters.length + 1) = some (naT.getD k 99)) ∧
  (kdT.getD k 0 = 2 → Cond.instanceMethod (yM k) ∈ AW ∧ (yM k).name = "<init>" ∧ rtF k = none ∧ (parseMethodDescriptor (yM k).desc).map (fun d => d.parameters.length + 1) = some (naT.getD k 99))
set_option maxRecDepth 100000 in
theorem mw0 : Mw 0 := ⟨am 82 rfl rfl, am 5 rfl rfl, by decide +kernel, ⟨by decide +kernel, by decide +kernel⟩, by decide +kernel, fun h => absurd h (by decide), fun h => absurd h (by decide), fun _ => ⟨am 81 rfl rfl, by decide +kernel, by decide +kernel, by decide +kernel⟩⟩
set_option maxRecDepth 100000 in
theorem mw1 : Mw 1 := ⟨am 366 rfl rfl, am 5 rfl rfl, by decide +kernel, ⟨by decide +kernel, by decide +kernel⟩, by decide +kernel, fun h => absurd h (by decide), fun _ => ⟨am 364 rfl rfl, am 365 rfl rfl, by decide +kernel⟩, fun h => absurd h (by decide)⟩
set_option maxRecDepth 100000 in
theorem mw2 : Mw 2 := ⟨am 374 rfl rfl, am 5 rfl rfl, by decide +kernel, ⟨by decide +kernel, by decide +kernel⟩, by decide +kernel, fun h => absurd h (by decide), fun _ => ⟨am 373 rfl rfl, am2 9 rfl rfl, by decide +kernel⟩, fun h => absurd h (by decide)⟩
set_option maxRecDepth 100000 in
theorem mw3 : Mw 3 := ⟨am 386 rfl rfl, am 5 rfl rfl, by decide +kernel, ⟨by decide +kernel, by decide +kernel⟩, by decide +kernel, fun h => absurd h (by decide), fun _ => ⟨am 385 rfl rfl, am2 11 rfl rfl, by decide +kernel⟩, fun h => absurd h (by decide)⟩
set_option maxRecDepth 100000 in
theorem mw4 : Mw 4 := ⟨am 378 rfl rfl, am 5 rfl rfl, by decide +kernel, ⟨by decide +kernel, by decide +kernel⟩, by decide +kernel, fun h => absurd h (by decide), fun _ => ⟨am 377 rfl rfl, am2 10 rfl rfl, by decide +kernel⟩, fun h => absurd h (by decide)⟩
set_option maxRecDepth 100000 in
theorem mw5 : Mw 5 := ⟨am 389 rfl rfl, am 5 rfl rfl, by decide +kernel, ⟨by decide +kernel, by decide +kernel⟩, by decide +kernel, fun _ => ⟨am 388 rfl rfl, by decide +kernel⟩, fun h => absurd h (by decide), fun h => absurd h (by decide)⟩
set_option maxRecDepth 100000 in
theorem mw6 : Mw 6 := ⟨am 397 rfl rfl, am 5 rfl rfl, by decide +kernel, ⟨by decide +kernel, by decide +kernel⟩, by decide +kernel, fun h => absurd h (by decide), fun _ => ⟨am 396 rfl rfl, am2 12 rfl rfl, by decide +kernel⟩, fun h => absurd h (by decide)⟩
set_option maxRecDepth 100000 in
theorem mw7 : Mw 7 := ⟨am 393 rfl rfl, am 5 rfl rfl, by decide +kernel, ⟨by decide +kernel, by decide +kernel⟩, by decide +kernel, fun h => absurd h (by decide), fun _ => ⟨am 391 rfl rfl, am 392 rfl rfl, by decide +kernel⟩, fun h => absurd h (by decide)⟩
set_option maxRecDepth 100000 in
theorem mw8 : Mw 8 := ⟨am 401 rfl rfl, am 5 rfl rfl, by decide +kernel, ⟨by decide +kernel, by decide +kernel⟩, by decide +kernel, fun h => absurd h (by decide), fun _ => ⟨am 399 rfl rfl, am 400 rfl rfl, by decide +kernel⟩, fun h => absurd h (by decide)⟩
set_option maxRecDepth 100000 in
theorem mw9 : Mw 9 := ⟨am 487 rfl rfl, am 5 rfl rfl, by decide +kernel, ⟨by decide +kernel, by decide +kernel⟩, by decide +kernel, fun h => absurd h (by decide), fun _ => ⟨am 485 rfl rfl, am 486 rfl rfl, by decide +kernel⟩, fun h => absurd h (by decide)⟩
set_option maxRecDepth 100000 in
theorem mw10 : Mw 10 := ⟨am 102 rfl rfl, am 6 rfl rfl, by decide +kernel, ⟨by decide +kernel, by decide +kernel⟩, by decide +kernel, fun h => absurd h (by decide), fun h => absurd h (by decide), fun _ => ⟨am 101 rfl rfl, by decide +kernel, by decide +kernel, by decide +kernel⟩⟩
set_option maxRecDepth 100000 in
theorem mw11 : Mw 11 := ⟨am 536 rfl rfl, am 6 rfl rfl, by decide +kernel, ⟨by decide +kernel, by decide +kernel⟩, by decide +kernel, fun h => absurd h (by decide), fun _ => ⟨am 534 rfl rfl, am 535 rfl rfl, by decide +kernel⟩, fun h => absurd h (by decide)⟩
set_option maxRecDepth 100000 in
theorem mw12 : Mw 12 := ⟨am 540 rfl rfl, am 6 rfl rfl, by decide +kernel, ⟨by decide +kernel, by decide +kernel⟩, by decide +kernel, fun h => absurd h (by decide), fun _ => ⟨am 539 rfl rfl, am2 18 rfl rfl, by decide +kernel⟩, fun h => absurd h (by decide)⟩
set_option maxRecDepth 100000 in
theorem mw13 : Mw 13 := ⟨am 547 rfl rfl, am 6 rfl rfl, by decide +kernel, ⟨by decide +kernel, by decide +kernel⟩, by decide +kernel, fun h => absurd h (by decide), fun _ => ⟨am 546 rfl rfl, am2 19 rfl rfl, by decide +kernel⟩, fun h => absurd h (by decide)⟩
set_option maxRecDepth 100000 in
theorem mw14 : Mw 14 := ⟨am 551 rfl rfl, am 6 rfl rfl, by decide +kernel, ⟨by decide +kernel, by decide +kernel⟩, by decide +kernel, fun _ => ⟨am 550 rfl rfl, by decide +kernel⟩, fun h => absurd h (by decide), fun h => absurd h (by decide)⟩
set_option maxRecDepth 100000 in
theorem mw15 : Mw 15 := ⟨am 38 rfl rfl, am 3 rfl rfl, by decide +kernel, ⟨by decide +kernel, by decide +kernel⟩, by decide +kernel, fun h => absurd h (by decide), fun h => absurd h (by decide), fun _ => ⟨am 37 rfl rfl, by decide +kernel, by decide +kernel, by decide +kernel⟩⟩
set_option maxRecDepth 100000 in
theorem mw16 : Mw 16 := ⟨am 188 rfl rfl, am 3 rfl rfl, by decide +kernel, ⟨by decide +kernel, by decide +kernel⟩, by decide +kernel, fun h => absurd h (by decide), fun _ => ⟨am 186 rfl rfl, am 187 rfl rfl, by decide +kernel⟩, fun h => absurd h (by decide)⟩
set_option maxRecDepth 100000 in
theorem mw17 : Mw 17 := ⟨am 199 rfl rfl, am 3 rfl rfl, by decide +kernel, ⟨by decide +kernel, by decide +kernel⟩, by decide +kernel, fun h => absurd h (by decide), fun _ => ⟨am 197 rfl rfl, am 198 rfl rfl, by decide +kernel⟩, fun h => absurd h (by decide)⟩
set_option maxRecDepth 100000 in
theorem mw18 : Mw 18 := ⟨am 465 rfl rfl, am 3 rfl rfl, by decide +kernel, ⟨by decide +kernel, by decide +kernel⟩, by decide +kernel, fun h => absurd h (by decide), fun _ => ⟨am 463 rfl rfl, am 464 rfl rfl, by decide +kernel⟩, fun h => absurd h (by decide)⟩
set_option maxRecDepth 100000 in
theorem mw19 : Mw 19 := ⟨am 207 rfl rfl, am 3 rfl rfl, by decide +kernel, ⟨by decide +kernel, by decide +kernel⟩, by decide +kernel, fun h => absurd h (by decide), fun _ => ⟨am 205 rfl rfl, am 206 rfl rfl, by decide +kernel⟩, fun h => absurd h (by decide)⟩
set_option maxRecDepth 100000 in
theorem mw20 : Mw 20 := ⟨am 215 rfl rfl, am 3 rfl rfl, by decide +kernel, ⟨by decide +kernel, by decide +kernel⟩, by decide +kernel, fun h => absurd h (by decide), fun _ => ⟨am 213 rfl rfl, am 214 rfl rfl, by decide +kernel⟩, fun h => absurd h (by decide)⟩
set_option maxRecDepth 100000 in
theorem mw21 : Mw 21 := ⟨am 223 rfl rfl, am 3 rfl rfl, by decide +kernel, ⟨by decide +kernel, by decide +kernel⟩, by decide +kernel, fun h => absurd h (by decide), fun _ => ⟨am 221 rfl rfl, am 222 rfl rfl, by decide +kernel⟩, fun h => absurd h (by decide)⟩
set_option maxRecDepth 100000 in
theorem mw22 : Mw 22 := ⟨am 227 rfl rfl, am 3 rfl rfl, by decide +kernel, ⟨by decide +kernel, by decide +kernel⟩, by decide +kernel, fun h => absurd h (by decide), fun _ => ⟨am 225 rfl rfl, am 226 rfl rfl, by decide +kernel⟩, fun h => absurd h (by decide)⟩
set_option maxRecDepth 100000 in
theorem mw23 : Mw 23 := ⟨am 235 rfl rfl, am 3 rfl rfl, by decide +kernel, ⟨by decide +kernel, by decide +kernel⟩, by decide +kernel, fun h => absurd h (by decide), fun _ => ⟨am 233 rfl rfl, am 234 rfl rfl, by decide +kernel⟩, fun h => absurd h (by decide)⟩
set_option maxRecDepth 100000 in
theorem mw24 : Mw 24 := ⟨am 240 rfl rfl, am 3 rfl rfl, by decide +kernel, ⟨by decide +kernel, by decide +kernel⟩, by decide +kernel, fun h => absurd h (by decide), fun _ => ⟨am 238 rfl rfl, am 239 rfl rfl, by decide +kernel⟩, fun h => absurd h (by decide)⟩
set_option maxRecDepth 100000 in
theorem mw25 : Mw 25 := ⟨am 260 rfl rfl, am 3 rfl rfl, by decide +kernel, ⟨by decide +kernel, by decide +kernel⟩, by decide +kernel, fun h => absurd h (by decide), fun _ => ⟨am 258 rfl rfl, am 259 rfl rfl, by decide +kernel⟩, fun h => absurd h (by decide)⟩
set_option maxRecDepth 100000 in
theorem mw26 : Mw 26 := ⟨am 256 rfl rfl, am 3 rfl rfl, by decide +kernel, ⟨by decide +kernel, by decide +kernel⟩, by decide +kernel, fun h => absurd h (by decide), fun _ => ⟨am 254 rfl rfl, am 255 rfl rfl, by decide +kernel⟩, fun h => absurd h (by decide)⟩
set_option maxRecDepth 100000 in
theorem mw27 : Mw 27 := ⟨am 264 rfl rfl, am 3 rfl rfl, by decide +kernel, ⟨by decide +kernel, by decide +kernel⟩, by decide +kernel, fun h => absurd h (by decide), fun _ => ⟨am 262 rfl rfl, am 263 rfl rfl, by decide +kernel⟩, fun h => absurd h (by decide)⟩
set_option maxRecDepth 100000 in
theorem mw28 : Mw 28 := ⟨am 268 rfl rfl, am 3 rfl rfl, by decide +kernel, ⟨by decide +kernel, by decide +kernel⟩, by decide +kernel, fun h => absurd h (by decide), fun _ => ⟨am 266 rfl rfl, am 267 rfl rfl, by decide +kernel⟩, fun h => absurd h (by decide)⟩
set_option maxRecDepth 100000 in
theorem mw29 : Mw 29 := ⟨am 276 rfl rfl, am 3 rfl rfl, by decide +kernel, ⟨by decide +kernel, by decide +kernel⟩, by decide +kernel, fun h => absurd h (by decide), fun _ => ⟨am 274 rfl rfl, am 275 rfl rfl, by decide +kernel⟩, fun h => absurd h (by decide)⟩
set_option maxRecDepth 100000 in
theorem mw30 : Mw 30 := ⟨am 340 rfl rfl, am 3 rfl rfl, by decide +kernel, ⟨by decide +kernel, by decide +kernel⟩, by decide +kernel, fun h => absurd h (by decide), fun _ => ⟨am 338 rfl rfl, am 339 rfl rfl, by decide +kernel⟩, fun h => absurd h (by decide)⟩
set_option maxRecDepth 100000 in
theorem mw31 : Mw 31 := ⟨am 248 rfl rfl, am 3 rfl rfl, by decide +kernel, ⟨by decide +kernel, by decide +kernel⟩, by decide +kernel, fun h => absurd h (by decide), fun _ => ⟨am 246 rfl rfl, am 247 rfl rfl, by decide +kernel⟩, fun h => absurd h (by decide)⟩
set_option maxRecDepth 100000 in
theorem mw32 : Mw 32 := ⟨am 252 rfl rfl, am 3 rfl rfl, by decide +kernel, ⟨by decide +kernel, by decide +kernel⟩, by decide +kernel, fun h => absurd h (by decide), fun _ => ⟨am 251 rfl rfl, am2 3 rfl rfl, by decide +kernel⟩, fun h => absurd h (by decide)⟩
set_option maxRecDepth 100000 in
theorem mw33 : Mw 33 := ⟨am 272 rfl rfl, am 3 rfl rfl, by decide +kernel, ⟨by decide +kernel, by decide +kernel⟩, by decide +kernel, fun h => absurd h (by decide), fun _ => ⟨am 271 rfl rfl, am2 4 rfl rfl, by decide +kernel⟩, fun h => absurd h (by decide)⟩
set_option maxRecDepth 100000 in
theorem mw34 : Mw 34 := ⟨am 287 rfl rfl, am 3 rfl rfl, by decide +kernel, ⟨by decide +kernel, by decide +kernel⟩, by decide +kernel, fun h => absurd h (by decide), fun _ => ⟨am 285 rfl rfl, am 286 rfl rfl, by decide +kernel⟩, fun h => absurd h (by decide)⟩
set_option maxRecDepth 100000 in
theorem mw35 : Mw 35 := ⟨am 291 rfl rfl, am 3 rfl rfl, by decide +kernel, ⟨by decide +kernel, by decide +kernel⟩, by decide +kernel, fun h => absurd h (by decide), fun _ => ⟨am 289 rfl rfl, am 290 rfl rfl, by decide +kernel⟩, fun h => absurd h (by decide)⟩
set_option maxRecDepth 100000 in
theorem mw36 : Mw 36 := ⟨am 500 rfl rfl, am 3 rfl rfl, by decide +kernel, ⟨by decide +kernel, by decide +kernel⟩, by decide +kernel, fun h => absurd h (by decide), fun _ => ⟨am 498 rfl rfl, am 499 rfl rfl, by decide +kernel⟩, fun h => absurd h (by decide)⟩
set_option maxRecDepth 100000 in
theorem mw37 : Mw 37 := ⟨am 298 rfl rfl, am 3 rfl rfl, by decide +kernel, ⟨by decide +kernel, by decide +kernel⟩, by decide +kernel, fun h => absurd h (by decide), fun _ => ⟨am 296 rfl rfl, am 297 rfl rfl, by decide +kernel⟩, fun h => absurd h (by decide)⟩
set_option maxRecDepth 100000 in
theorem mw38 : Mw 38 := ⟨am 306 rfl rfl, am 3 rfl rfl, by decide +kernel, ⟨by decide +kernel, by decide +kernel⟩, by decide +kernel, fun h => absurd h (by decide), fun _ => ⟨am 304 rfl rfl, am 305 rfl rfl, by decide +kernel⟩, fun h => absurd h (by decide)⟩
set_option maxRecDepth 100000 in
theorem mw39 : Mw 39 := ⟨am 316 rfl rfl, am 3 rfl rfl, by decide +kernel, ⟨by decide +kernel, by decide +kernel⟩, by decide +kernel, fun h => absurd h (by decide), fun _ => ⟨am 314 rfl rfl, am 315 rfl rfl, by decide +kernel⟩, fun h => absurd h (by decide)⟩
set_option maxRecDepth 100000 in
theorem mw40 : Mw 40 := ⟨am 312 rfl rfl, am 3 rfl rfl, by decide +kernel, ⟨by decide +kernel, by decide +kernel⟩, by decide +kernel, fun h => absurd h (by decide), fun _ => ⟨am 310 rfl rfl, am 311 rfl rfl, by decide +kernel⟩, fun h => absurd h (by decide)⟩
set_option maxRecDepth 100000 in
theorem mw41 : Mw 41 := ⟨am 422 rfl rfl, am 3 rfl rfl, by decide +kernel, ⟨by decide +kernel, by decide +kernel⟩, by decide +kernel, fun h => absurd h (by decide), fun _ => ⟨am 420 rfl rfl, am 421 rfl rfl, by decide +kernel⟩, fun h => absurd h (by decide)⟩
set_option maxRecDepth 100000 in
theorem mw42 : Mw 42 := ⟨am 348 rfl rfl, am 3 rfl rfl, by decide +kernel, ⟨by decide +kernel, by decide +kernel⟩, by decide +kernel, fun h => absurd h (by decide), fun _ => ⟨am 346 rfl rfl, am 347 rfl rfl, by decide +kernel⟩, fun h => absurd h (by decide)⟩
set_option maxRecDepth 100000 in
theorem mw43 : Mw 43 := ⟨am 452 rfl rfl, am 3 rfl rfl, by decide +kernel, ⟨by decide +kernel, by decide +kernel⟩, by decide +kernel, fun h => absurd h (by decide), fun _ => ⟨am 450 rfl rfl, am 451 rfl rfl, by decide +kernel⟩, fun h => absurd h (by decide)⟩
set_option maxRecDepth 100000 in
theorem mw44 : Mw 44 := ⟨am 456 rfl rfl, am 3 rfl rfl, by decide +kernel, ⟨by decide +kernel, by decide +kernel⟩, by decide +kernel, fun h => absurd h (by decide), fun _ => ⟨am 454 rfl rfl, am 455 rfl rfl, by decide +kernel⟩, fun h => absurd h (by decide)⟩
set_option maxRecDepth 100000 in
theorem mw45 : Mw 45 := ⟨am 461 rfl rfl, am 3 rfl rfl, by decide +kernel, ⟨by decide +kernel, by decide +kernel⟩, by decide +kernel, fun h => absurd h (by decide), fun _ => ⟨am 460 rfl rfl, am2 13 rfl rfl, by decide +kernel⟩, fun h => absurd h (by decide)⟩
set_option maxRecDepth 100000 in
theorem mw46 : Mw 46 := ⟨am 352 rfl rfl, am 3 rfl rfl, by decide +kernel, ⟨by decide +kernel, by decide +kernel⟩, by decide +kernel, fun h => absurd h (by decide), fun _ => ⟨am 350 rfl rfl, am 351 rfl rfl, by decide +kernel⟩, fun h => absurd h (by decide)⟩
set_option maxRecDepth 100000 in
theorem mw47 : Mw 47 := ⟨am 328 rfl rfl, am 3 rfl rfl, by decide +kernel, ⟨by decide +kernel, by decide +kernel⟩, by decide +kernel, fun h => absurd h (by decide), fun _ => ⟨am 326 rfl rfl, am 327 rfl rfl, by decide +kernel⟩, fun h => absurd h (by decide)⟩
set_option maxRecDepth 100000 in
theorem mw48 : Mw 48 := ⟨am 332 rfl rfl, am 3 rfl rfl, by decide +kernel, ⟨by decide +kernel, by decide +kernel⟩, by decide +kernel, fun h => absurd h (by decide), fun _ => ⟨am 331 rfl rfl, am2 6 rfl rfl, by decide +kernel⟩, fun h => absurd h (by decide)⟩
set_option maxRecDepth 100000 in
theorem mw49 : Mw 49 := ⟨am 336 rfl rfl, am 3 rfl rfl, by decide +kernel, ⟨by decide +kernel, by decide +kernel⟩, by decide +kernel, fun h => absurd h (by decide), fun _ => ⟨am 335 rfl rfl, am2 7 rfl rfl, by decide +kernel⟩, fun h => absurd h (by decide)⟩
set_option maxRecDepth 100000 in
theorem mw50 : Mw 50 := ⟨am 344 rfl rfl, am 3 rfl rfl, by decide +kernel, ⟨by decide +kernel, by decide +kernel⟩, by decide +kernel, fun h => absurd h (by decide), fun _ => ⟨am 343 rfl rfl, am2 8 rfl rfl, by decide +kernel⟩, fun h => absurd h (by decide)⟩
set_option maxRecDepth 100000 in
theorem mw51 : Mw 51 := ⟨am 382 rfl rfl, am 3 rfl rfl, by decide +kernel, ⟨by decide +kernel, by decide +kernel⟩, by decide +kernel, fun h => absurd h (by decide), fun _ => ⟨am 380 rfl rfl, am 381 rfl rfl, by decide +kernel⟩, fun h => absurd h (by decide)⟩
set_option maxRecDepth 100000 in
theorem mw52 : Mw 52 := ⟨am 65 rfl rfl, am 4 rfl rfl, by decide +kernel, ⟨by decide +kernel, by decide +kernel⟩, by decide +kernel, fun h => absurd h (by decide), fun h => absurd h (by decide), fun _ => ⟨am 64 rfl rfl, by decide +kernel, by decide +kernel, by decide +kernel⟩⟩
set_option maxRecDepth 100000 in
theorem mw53 : Mw 53 := ⟨am 324 rfl rfl, am 4 rfl rfl, by decide +kernel, ⟨by decide +kernel, by decide +kernel⟩, by decide +kernel, fun h => absurd h (by decide), fun _ => ⟨am 322 rfl rfl, am 323 rfl rfl, by decide +kernel⟩, fun h => absurd h (by decide)⟩
set_option maxRecDepth 100000 in
theorem mw54 : Mw 54 := ⟨am 370 rfl rfl, am 4 rfl rfl, by decide +kernel, ⟨by decide +kernel, by decide +kernel⟩, by decide +kernel, fun h => absurd h (by decide), fun _ => ⟨am 368 rfl rfl, am 369 rfl rfl, by decide +kernel⟩, fun h => absurd h (by decide)⟩
set_option maxRecDepth 100000 in
theorem mw55 : Mw 55 := ⟨am 356 rfl rfl, am 4 rfl rfl, by decide +kernel, ⟨by decide +kernel, by decide +kernel⟩, by decide +kernel, fun h => absurd h (by decide), fun _ => ⟨am 354 rfl rfl, am 355 rfl rfl, by decide +kernel⟩, fun h => absurd h (by decide)⟩
set_option maxRecDepth 100000 in
theorem mw56 : Mw 56 := ⟨am 516 rfl rfl, am 4 rfl rfl, by decide +kernel, ⟨by decide +kernel, by decide +kernel⟩, by decide +kernel, fun h => absurd h (by decide), fun _ => ⟨am 515 rfl rfl, am2 16 rfl rfl, by decide +kernel⟩, fun h => absurd h (by decide)⟩
set_option maxRecDepth 100000 in
theorem mw57 : Mw 57 := ⟨am 512 rfl rfl, am 4 rfl rfl, by decide +kernel, ⟨by decide +kernel, by decide +kernel⟩, by decide +kernel, fun h => absurd h (by decide), fun _ => ⟨am 510 rfl rfl, am 511 rfl rfl, by decide +kernel⟩, fun h => absurd h (by decide)⟩
set_option maxRecDepth 100000 in
theorem mw58 : Mw 58 := ⟨am 524 rfl rfl, am 4 rfl rfl, by decide +kernel, ⟨by decide +kernel, by decide +kernel⟩, by decide +kernel, fun h => absurd h (by decide), fun _ => ⟨am 522 rfl rfl, am 523 rfl rfl, by decide +kernel⟩, fun h => absurd h (by decide)⟩
set_option maxRecDepth 100000 in
theorem mw59 : Mw 59 := ⟨am 22 rfl rfl, am 2 rfl rfl, by decide +kernel, ⟨by decide +kernel, by decide +kernel⟩, by decide +kernel, fun h => absurd h (by decide), fun h => absurd h (by decide), fun _ => ⟨am 21 rfl rfl, by decide +kernel, by decide +kernel, by decide +kernel⟩⟩
set_option maxRecDepth 100000 in
theorem mw60 : Mw 60 := ⟨am 142 rfl rfl, am 2 rfl rfl, by decide +kernel, ⟨by decide +kernel, by decide +kernel⟩, by decide +kernel, fun h => absurd h (by decide), fun _ => ⟨am 140 rfl rfl, am 141 rfl rfl, by decide +kernel⟩, fun h => absurd h (by decide)⟩
set_option maxRecDepth 100000 in
theorem mw61 : Mw 61 := ⟨am 154 rfl rfl, am 2 rfl rfl, by decide +kernel, ⟨by decide +kernel, by decide +kernel⟩, by decide +kernel, fun h => absurd h (by decide), fun _ => ⟨am 152 rfl rfl, am 153 rfl rfl, by decide +kernel⟩, fun h => absurd h (by decide)⟩
set_option maxRecDepth 100000 in
theorem mw62 : Mw 62 := ⟨am 158 rfl rfl, am 2 rfl rfl, by decide +kernel, ⟨by decide +kernel, by decide +kernel⟩, by decide +kernel, fun h => absurd h (by decide), fun _ => ⟨am 157 rfl rfl, am2 0 rfl rfl, by decide +kernel⟩, fun h => absurd h (by decide)⟩
set_option maxRecDepth 100000 in
theorem mw63 : Mw 63 := ⟨am 165 rfl rfl, am 2 rfl rfl, by decide +kernel, ⟨by decide +kernel, by decide +kernel⟩, by decide +kernel, fun h => absurd h (by decide), fun _ => ⟨am 164 rfl rfl, am2 1 rfl rfl, by decide +kernel⟩, fun h => absurd h (by decide)⟩
set_option maxRecDepth 100000 in
theorem mw64 : Mw 64 := ⟨am 161 rfl rfl, am 2 rfl rfl, by decide +kernel, ⟨by decide +kernel, by decide +kernel⟩, by decide +kernel, fun _ => ⟨am 160 rfl rfl, by decide +kernel⟩, fun h => absurd h (by decide), fun h => absurd h (by decide)⟩
set_option maxRecDepth 100000 in
theorem mw65 : Mw 65 := ⟨am 176 rfl rfl, am 2 rfl rfl, by decide +kernel, ⟨by decide +kernel, by decide +kernel⟩, by decide +kernel, fun h => absurd h (by decide), fun _ => ⟨am 174 rfl rfl, am 175 rfl rfl, by decide +kernel⟩, fun h => absurd h (by decide)⟩
set_option maxRecDepth 100000 in
theorem mw66 : Mw 66 := ⟨am 14 rfl rfl, am 1 rfl rfl, by decide +kernel, ⟨by decide +kernel, by decide +kernel⟩, by decide +kernel, fun h => absurd h (by decide), fun h => absurd h (by decide), fun _ => ⟨am 13 rfl rfl, by decide +kernel, by decide +kernel, by decide +kernel⟩⟩
set_option maxRecDepth 100000 in
theorem mw67 : Mw 67 := ⟨am 138 rfl rfl, am 1 rfl rfl, by decide +kernel, ⟨by decide +kernel, by decide +kernel⟩, by decide +kernel, fun h => absurd h (by decide), fun _ => ⟨am 136 rfl rfl, am 137 rfl rfl, by decide +kernel⟩, fun h => absurd h (by decide)⟩
set_option maxRecDepth 100000 in
theorem mw68 : Mw 68 := ⟨am 146 rfl rfl, am 1 rfl rfl, by decide +kernel, ⟨by decide +kernel, by decide +kernel⟩, by decide +kernel, fun h => absurd h (by decide), fun _ => ⟨am 144 rfl rfl, am 145 rfl rfl, by decide +kernel⟩, fun h => absurd h (by decide)⟩
set_option maxRecDepth 100000 in
theorem mw69 : Mw 69 := ⟨am 150 rfl rfl, am 1 rfl rfl, by decide +kernel, ⟨by decide +kernel, by decide +kernel⟩, by decide +kernel, fun h => absurd h (by decide), fun _ => ⟨am 148 rfl rfl, am 149 rfl rfl, by decide +kernel⟩, fun h => absurd h (by decide)⟩
set_option maxRecDepth 100000 in
theorem mw70 : Mw 70 := ⟨am 169 rfl rfl, am 1 rfl rfl, by decide +kernel, ⟨by decide +kernel, by decide +kernel⟩, by decide +kernel, fun h => absurd h (by decide), fun _ => ⟨am 167 rfl rfl, am 168 rfl rfl, by decide +kernel⟩, fun h => absurd h (by decide)⟩
set_option maxRecDepth 100000 in
theorem mw71 : Mw 71 := ⟨am 180 rfl rfl, am 1 rfl rfl, by decide +kernel, ⟨by decide +kernel, by decide +kernel⟩, by decide +kernel, fun h => absurd h (by decide), fun _ => ⟨am 178 rfl rfl, am 179 rfl rfl, by decide +kernel⟩, fun h => absurd h (by decide)⟩
set_option maxRecDepth 100000 in
theorem mw72 : Mw 72 := ⟨am 192 rfl rfl, am 1 rfl rfl, by decide +kernel, ⟨by decide +kernel, by decide +kernel⟩, by decide +kernel, fun h => absurd h (by decide), fun _ => ⟨am 190 rfl rfl, am 191 rfl rfl, by decide +kernel⟩, fun h => absurd h (by decide)⟩
set_option maxRecDepth 100000 in
theorem mw73 : Mw 73 := ⟨am 203 rfl rfl, am 1 rfl rfl, by decide +kernel, ⟨by decide +kernel, by decide +kernel⟩, by decide +kernel, fun h => absurd h (by decide), fun _ => ⟨am 201 rfl rfl, am 202 rfl rfl, by decide +kernel⟩, fun h => absurd h (by decide)⟩
set_option maxRecDepth 100000 in
theorem mw74 : Mw 74 := ⟨am 211 rfl rfl, am 1 rfl rfl, by decide +kernel, ⟨by decide +kernel, by decide +kernel⟩, by decide +kernel, fun h => absurd h (by decide), fun _ => ⟨am 209 rfl rfl, am 210 rfl rfl, by decide +kernel⟩, fun h => absurd h (by decide)⟩
set_option maxRecDepth 100000 in
theorem mw75 : Mw 75 := ⟨am 219 rfl rfl, am 1 rfl rfl, by decide +kernel, ⟨by decide +kernel, by decide +kernel⟩, by decide +kernel, fun h => absurd h (by decide), fun _ => ⟨am 217 rfl rfl, am 218 rfl rfl, by decide +kernel⟩, fun h => absurd h (by decide)⟩
set_option maxRecDepth 100000 in
theorem mw76 : Mw 76 := ⟨am 231 rfl rfl, am 1 rfl rfl, by decide +kernel, ⟨by decide +kernel, by decide +kernel⟩, by decide +kernel, fun h => absurd h (by decide), fun _ => ⟨am 229 rfl rfl, am 230 rfl rfl, by decide +kernel⟩, fun h => absurd h (by decide)⟩
set_option maxRecDepth 100000 in
theorem mw77 : Mw 77 := ⟨am 244 rfl rfl, am 1 rfl rfl, by decide +kernel, ⟨by decide +kernel, by decide +kernel⟩, by decide +kernel, fun h => absurd h (by decide), fun _ => ⟨am 242 rfl rfl, am 243 rfl rfl, by decide +kernel⟩, fun h => absurd h (by decide)⟩
set_option maxRecDepth 100000 in
theorem mw78 : Mw 78 := ⟨am 280 rfl rfl, am 1 rfl rfl, by decide +kernel, ⟨by decide +kernel, by decide +kernel⟩, by decide +kernel, fun h => absurd h (by decide), fun _ => ⟨am 278 rfl rfl, am 279 rfl rfl, by decide +kernel⟩, fun h => absurd h (by decide)⟩
set_option maxRecDepth 100000 in
theorem mw79 : Mw 79 := ⟨am 405 rfl rfl, am 1 rfl rfl, by decide +kernel, ⟨by decide +kernel, by decide +kernel⟩, by decide +kernel, fun h => absurd h (by decide), fun _ => ⟨am 403 rfl rfl, am 404 rfl rfl, by decide +kernel⟩, fun h => absurd h (by decide)⟩
set_option maxRecDepth 100000 in
theorem mw80 : Mw 80 := ⟨am 410 rfl rfl, am 1 rfl rfl, by decide +kernel, ⟨by decide +kernel, by decide +kernel⟩, by decide +kernel, fun h => absurd h (by decide), fun _ => ⟨am 408 rfl rfl, am 409 rfl rfl, by decide +kernel⟩, fun h => absurd h (by decide)⟩
set_option maxRecDepth 100000 in
theorem mw81 : Mw 81 := ⟨am 415 rfl rfl, am 1 rfl rfl, by decide +kernel, ⟨by decide +kernel, by decide +kernel⟩, by decide +kernel, fun h => absurd h (by decide), fun _ => ⟨am 413 rfl rfl, am 414 rfl rfl, by decide +kernel⟩, fun h => absurd h (by decide)⟩
set_option maxRecDepth 100000 in
theorem mw82 : Mw 82 := ⟨am 432 rfl rfl, am 1 rfl rfl, by decide +kernel, ⟨by decide +kernel, by decide +kernel⟩, by decide +kernel, fun h => absurd h (by decide), fun _ => ⟨am 430 rfl rfl, am 431 rfl rfl, by decide +kernel⟩, fun h => absurd h (by decide)⟩
set_option maxRecDepth 100000 in
theorem mw83 : Mw 83 := ⟨am 440 rfl rfl, am 1 rfl rfl, by decide +kernel, ⟨by decide +kernel, by decide +kernel⟩, by decide +kernel, fun h => absurd h (by decide), fun _ => ⟨am 438 rfl rfl, am 439 rfl rfl, by decide +kernel⟩, fun h => absurd h (by decide)⟩
set_option maxRecDepth 100000 in
theorem mw84 : Mw 84 := ⟨am 448 rfl rfl, am 1 rfl rfl, by decide +kernel, ⟨by decide +kernel, by decide +kernel⟩, by decide +kernel, fun h => absurd h (by decide), fun _ => ⟨am 446 rfl rfl, am 447 rfl rfl, by decide +kernel⟩, fun h => absurd h (by decide)⟩
set_option maxRecDepth 100000 in
theorem mw85 : Mw 85 := ⟨am 469 rfl rfl, am 1 rfl rfl, by decide +kernel, ⟨by decide +kernel, by decide +kernel⟩, by decide +kernel, fun h => absurd h (by decide), fun _ => ⟨am 467 rfl rfl, am 468 rfl rfl, by decide +kernel⟩, fun h => absurd h (by decide)⟩
set_option maxRecDepth 100000 in
theorem mw86 : Mw 86 := ⟨am 478 rfl rfl, am 1 rfl rfl, by decide +kernel, ⟨by decide +kernel, by decide +kernel⟩, by decide +kernel, fun h => absurd h (by decide), fun _ => ⟨am 476 rfl rfl, am 477 rfl rfl, by decide +kernel⟩, fun h => absurd h (by decide)⟩
set_option maxRecDepth 100000 in
theorem mw87 : Mw 87 := ⟨am 483 rfl rfl, am 1 rfl rfl, by decide +kernel, ⟨by decide +kernel, by decide +kernel⟩, by decide +kernel, fun h => absurd h (by decide), fun _ => ⟨am 481 rfl rfl, am 482 rfl rfl, by decide +kernel⟩, fun h => absurd h (by decide)⟩
set_option maxRecDepth 100000 in
theorem mw88 : Mw 88 := ⟨am 491 rfl rfl, am 1 rfl rfl, by decide +kernel, ⟨by decide +kernel, by decide +kernel⟩, by decide +kernel, fun h => absurd h (by decide), fun _ => ⟨am 489 rfl rfl, am 490 rfl rfl, by decide +kernel⟩, fun h => absurd h (by decide)⟩
set_option maxRecDepth 100000 in
theorem mw89 : Mw 89 := ⟨am 504 rfl rfl, am 1 rfl rfl, by decide +kernel, ⟨by decide +kernel, by decide +kernel⟩, by decide +kernel, fun h => absurd h (by decide), fun _ => ⟨am 502 rfl rfl, am 503 rfl rfl, by decide +kernel⟩, fun h => absurd h (by decide)⟩
set_option maxRecDepth 100000 in
theorem mw90 : Mw 90 := ⟨am 508 rfl rfl, am 1 rfl rfl, by decide +kernel, ⟨by decide +kernel, by decide +kernel⟩, by decide +kernel, fun h => absurd h (by decide), fun _ => ⟨am 506 rfl rfl, am 507 rfl rfl, by decide +kernel⟩, fun h => absurd h (by decide)⟩
set_option maxRecDepth 100000 in
theorem mw91 : Mw 91 := ⟨am 520 rfl rfl, am 1 rfl rfl, by decide +kernel, ⟨by decide +kernel, by decide +kernel⟩, by decide +kernel, fun h => absurd h (by decide), fun _ => ⟨am 518 rfl rfl, am 519 rfl rfl, by decide +kernel⟩, fun h => absurd h (by decide)⟩
set_option maxRecDepth 100000 in
theorem mw92 : Mw 92 := ⟨am 528 rfl rfl, am 1 rfl rfl, by decide +kernel, ⟨by decide +kernel, by decide +kernel⟩, by decide +kernel, fun h => absurd h (by decide), fun _ => ⟨am 526 rfl rfl, am 527 rfl rfl, by decide +kernel⟩, fun h => absurd h (by decide)⟩
set_option maxRecDepth 100000 in
theorem mw93 : Mw 93 := ⟨am 555 rfl rfl, am 1 rfl rfl, by decide +kernel, ⟨by decide +kernel, by decide +kernel⟩, by decide +kernel, fun h => absurd h (by decide), fun _ => ⟨am 553 rfl rfl, am 554 rfl rfl, by decide +kernel⟩, fun h => absurd h (by decide)⟩
set_option maxRecDepth 100000 in
theorem mw94 : Mw 94 := ⟨am 559 rfl rfl, am 1 rfl rfl, by decide +kernel, ⟨by decide +kernel, by decide +kernel⟩, by decide +kernel, fun h => absurd h (by decide), fun _ => ⟨am 557 rfl rfl, am 558 rfl rfl, by decide +kernel⟩, fun h => absurd h (by decide)⟩
set_option maxRecDepth 100000 in
theorem mw95 : Mw 95 := ⟨am 563 rfl rfl, am 1 rfl rfl, by decide +kernel, ⟨by decide +kernel, by decide +kernel⟩, by decide +kernel, fun h => absurd h (by decide), fun _ => ⟨am 561 rfl rfl, am 562 rfl rfl, by decide +kernel⟩, fun h => absurd h (by decide)⟩
set_option maxRecDepth 100000 in
theorem mw96 : Mw 96 := ⟨am 571 rfl rfl, am 1 rfl rfl, by decide +kernel, ⟨by decide +kernel, by decide +kernel⟩, by decide +kernel, fun h => absurd h (by decide), fun _ => ⟨am 569 rfl rfl, am 570 rfl rfl, by decide +kernel⟩, fun h => absurd h (by decide)⟩
set_option maxRecDepth 100000 in
theorem mw97 : Mw 97 := ⟨am 575 rfl rfl, am 1 rfl rfl, by decide +kernel, ⟨by decide +kernel, by decide +kernel⟩, by decide +kernel, fun h => absurd h (by decide), fun _ => ⟨am 573 rfl rfl, am 574 rfl rfl, by decide +kernel⟩, fun h => absurd h (by decide)⟩
set_option maxRecDepth 100000 in
theorem mw98 : Mw 98 := ⟨am 172 rfl rfl, am 1 rfl rfl, by decide +kernel, ⟨by decide +kernel, by decide +kernel⟩, by decide +kernel, fun _ => ⟨am 171 rfl rfl, by decide +kernel⟩, fun h => absurd h (by decide), fun h => absurd h (by decide)⟩
set_option maxRecDepth 100000 in
theorem mw99 : Mw 99 := ⟨am 195 rfl rfl, am 1 rfl rfl, by decide +kernel, ⟨by decide +kernel, by decide +kernel⟩, by decide +kernel, fun _ => ⟨am 194 rfl rfl, by decide +kernel⟩, fun h => absurd h (by decide), fun h => absurd h (by decide)⟩
set_option maxRecDepth 100000 in
theorem mw100 : Mw 100 := ⟨am 418 rfl rfl, am 1 rfl rfl, by decide +kernel, ⟨by decide +kernel, by decide +kernel⟩, by decide +kernel, fun _ => ⟨am 417 rfl rfl, by decide +kernel⟩, fun h => absurd h (by decide), fun h => absurd h (by decide)⟩
set_option maxRecDepth 100000 in
theorem mw101 : Mw 101 := ⟨am 184 rfl rfl, am 1 rfl rfl, by decide +kernel, ⟨by decide +kernel, by decide +kernel⟩, by decide +kernel, fun h => absurd h (by decide), fun _ => ⟨am 183 rfl rfl, am2 2 rfl rfl, by decide +kernel⟩, fun h => absurd h (by decide)⟩
set_option maxRecDepth 100000 in
theorem mw102 : Mw 102 := ⟨am 473 rfl rfl, am 1 rfl rfl, by decide +kernel, ⟨by decide +kernel, by decide +kernel⟩, by decide +kernel, fun h => absurd h (by decide), fun _ => ⟨am 472 rfl rfl, am2 14 rfl rfl, by decide +kernel⟩, fun h => absurd h (by decide)⟩
set_option maxRecDepth 100000 in
theorem mw103 : Mw 103 := ⟨am 532 rfl rfl, am 1 rfl rfl, by decide +kernel, ⟨by decide +kernel, by decide +kernel⟩, by decide +kernel, fun h => absurd h (by decide), fun _ => ⟨am 531 rfl rfl, am2 17 rfl rfl, by decide +kernel⟩, fun h => absurd h (by decide)⟩
set_option maxRecDepth 100000 in
theorem mw104 : Mw 104 := ⟨am 283 rfl rfl, am 1 rfl rfl, by decide +kernel, ⟨by decide +kernel, by decide +kernel⟩, by decide +kernel, fun _ => ⟨am 282 rfl rfl, by decide +kernel⟩, fun h => absurd h (by decide), fun h => absurd h (by decide)⟩
set_option maxRecDepth 100000 in
theorem mw105 : Mw 105 := ⟨am 320 rfl rfl, am 1 rfl rfl, by decide +kernel, ⟨by decide +kernel, by decide +kernel⟩, by decide +kernel, fun h => absurd h (by decide), fun _ => ⟨am 319 rfl rfl, am2 5 rfl rfl, by decide +kernel⟩, fun h => absurd h (by decide)⟩
set_option maxRecDepth 100000 in
theorem mw106 : Mw 106 := ⟨am 435 rfl rfl, am 1 rfl rfl, by decide +kernel, ⟨by decide +kernel, by decide +kernel⟩, by decide +kernel, fun _ => ⟨am 434 rfl rfl, by decide +kernel⟩, fun h => absurd h (by decide), fun h => absurd h (by decide)⟩
set_option maxRecDepth 100000 in
theorem mw107 : Mw 107 := ⟨am 495 rfl rfl, am 1 rfl rfl, by decide +kernel, ⟨by decide +kernel, by decide +kernel⟩, by decide +kernel, fun h => absurd h (by decide), fun _ => ⟨am 494 rfl rfl, am2 15 rfl rfl, by decide +kernel⟩, fun h => absurd h (by decide)⟩
set_option maxRecDepth 100000 in
theorem mw108 : Mw 108 := ⟨am 567 rfl rfl, am 1 rfl rfl, by decide +kernel, ⟨by decide +kernel, by decide +kernel⟩, by decide +kernel, fun h => absurd h (by decide), fun _ => ⟨am 566 rfl rfl, am2 20 rfl rfl, by decide +kernel⟩, fun h => absurd h (by decide)⟩
set_option maxRecDepth 100000 in
theorem mw109 : Mw 109 := ⟨am 579 rfl rfl, am 1 rfl rfl, by decide +kernel, ⟨by decide +kernel, by decide +kernel⟩, by decide +kernel, fun h => absurd h (by decide), fun _ => ⟨am 578 rfl rfl, am2 21 rfl rfl, by decide +kernel⟩, fun h => absurd h (by decide)⟩
set_option maxRecDepth 100000 in
theorem mw110 : Mw 110 := ⟨am 302 rfl rfl, am 1 rfl rfl, by decide +kernel, ⟨by decide +kernel, by decide +kernel⟩, by decide +kernel, fun _ => ⟨am 301 rfl rfl, by decide +kernel⟩, fun h => absurd h (by decide), fun h => absurd h (by decide)⟩
set_option maxRecDepth 100000 in
theorem mw111 : Mw 111 := ⟨am 584 rfl rfl, am 7 rfl rfl, by decide +kernel, ⟨by decide +kernel, by decide +kernel⟩, by decide +kernel, fun h => absurd h (by decide), fun h => absurd h (by decide), fun _ => ⟨am 583 rfl rfl, by decide +kernel, by decide +kernel, by decide +kernel⟩⟩
set_option maxRecDepth 100000 in
theorem mw112 : Mw 112 := ⟨am 678 rfl rfl, am 7 rfl rfl, by decide +kernel, ⟨by decide +kernel, by decide +kernel⟩, by decide +kernel, fun _ => ⟨am 677 rfl rfl, by decide +kernel⟩, fun h => absurd h (by decide), fun h => absurd h (by decide)⟩
set_option maxRecDepth 100000 in
theorem mw113 : Mw 113 := ⟨am 674 rfl rfl, am 7 rfl rfl, by decide +kernel, ⟨by decide +kernel, by decide +kernel⟩, by decide +kernel, fun h => absurd h (by decide), fun _ => ⟨am 672 rfl rfl, am 673 rfl rfl, by decide +kernel⟩, fun h => absurd h (by decide)⟩
set_option maxRecDepth 100000 in
theorem mw114 : Mw 114 := ⟨am 683 rfl rfl, am 7 rfl rfl, by decide +kernel, ⟨by decide +kernel, by decide +kernel⟩, by decide +kernel, fun h => absurd h (by decide), fun _ => ⟨am 681 rfl rfl, am 682 rfl rfl, by decide +kernel⟩, fun h => absurd h (by decide)⟩
set_option maxRecDepth 100000 in
theorem mw115 : Mw 115 := ⟨am 694 rfl rfl, am 7 rfl rfl, by decide +kernel, ⟨by decide +kernel, by decide +kernel⟩, by decide +kernel, fun _ => ⟨am 693 rfl rfl, by decide +kernel⟩, fun h => absurd h (by decide), fun h => absurd h (by decide)⟩
set_option maxRecDepth 100000 in
theorem mw116 : Mw 116 := ⟨am 702 rfl rfl, am 7 rfl rfl, by decide +kernel, ⟨by decide +kernel, by decide +kernel⟩, by decide +kernel, fun h => absurd h (by decide), fun _ => ⟨am 701 rfl rfl, am2 23 rfl rfl, by decide +kernel⟩, fun h => absurd h (by decide)⟩
set_option maxRecDepth 100000 in
theorem mw117 : Mw 117 := ⟨am 691 rfl rfl, am 7 rfl rfl, by decide +kernel, ⟨by decide +kernel, by decide +kernel⟩, by decide +kernel, fun h => absurd h (by decide), fun _ => ⟨am 690 rfl rfl, am2 22 rfl rfl, by decide +kernel⟩, fun h => absurd h (by decide)⟩
set_option maxRecDepth 100000 in
theorem mw118 : Mw 118 := ⟨am 687 rfl rfl, am 7 rfl rfl, by decide +kernel, ⟨by decide +kernel, by decide +kernel⟩, by decide +kernel, fun h => absurd h (by decide), fun _ => ⟨am 685 rfl rfl, am 686 rfl rfl, by decide +kernel⟩, fun h => absurd h (by decide)⟩
set_option maxRecDepth 100000 in
theorem mw119 : Mw 119 := ⟨am 709 rfl rfl, am 7 rfl rfl, by decide +kernel, ⟨by decide +kernel, by decide +kernel⟩, by decide +kernel, fun _ => ⟨am 708 rfl rfl, by decide +kernel⟩, fun h => absurd h (by decide), fun h => absurd h (by decide)⟩
set_option maxRecDepth 100000 in
theorem mw120 : Mw 120 := ⟨am 718 rfl rfl, am 7 rfl rfl, by decide +kernel, ⟨by decide +kernel, by decide +kernel⟩, by decide +kernel, fun h => absurd h (by decide), fun _ => ⟨am 717 rfl rfl, am2 24 rfl rfl, by decide +kernel⟩, fun h => absurd h (by decide)⟩
set_option maxRecDepth 100000 in
theorem mw121 : Mw 121 := ⟨am 725 rfl rfl, am 7 rfl rfl, by decide +kernel, ⟨by decide +kernel, by decide +kernel⟩, by decide +kernel, fun _ => ⟨am 724 rfl rfl, by decide +kernel⟩, fun h => absurd h (by decide), fun h => absurd h (by decide)⟩
set_option maxRecDepth 100000 in
theorem mw122 : Mw 122 := ⟨am 706 rfl rfl, am 7 rfl rfl, by decide +kernel, ⟨by decide +kernel, by decide +kernel⟩, by decide +kernel, fun h => absurd h (by decide), fun _ => ⟨am 704 rfl rfl, am 705 rfl rfl, by decide +kernel⟩, fun h => absurd h (by decide)⟩
set_option maxRecDepth 100000 in
theorem mw123 : Mw 123 := ⟨am 714 rfl rfl, am 7 rfl rfl, by decide +kernel, ⟨by decide +kernel, by decide +kernel⟩, by decide +kernel, fun h => absurd h (by decide), fun _ => ⟨am 712 rfl rfl, am 713 rfl rfl, by decide +kernel⟩, fun h => absurd h (by decide)⟩
set_option maxRecDepth 100000 in
theorem mw124 : Mw 124 := ⟨am 730 rfl rfl, am 7 rfl rfl, by decide +kernel, ⟨by decide +kernel, by decide +kernel⟩, by decide +kernel, fun h => absurd h (by decide), fun _ => ⟨am 729 rfl rfl, am2 25 rfl rfl, by decide +kernel⟩, fun h => absurd h (by decide)⟩
set_option maxRecDepth 100000 in
theorem mw125 : Mw 125 := ⟨am 722 rfl rfl, am 7 rfl rfl, by decide +kernel, ⟨by decide +kernel, by decide +kernel⟩, by decide +kernel, fun h => absurd h (by decide), fun _ => ⟨am 720 rfl rfl, am 721 rfl rfl, by decide +kernel⟩, fun h => absurd h (by decide)⟩
set_option maxRecDepth 100000 in
theorem mw126 : Mw 126 := ⟨am 734 rfl rfl, am 7 rfl rfl, by decide +kernel, ⟨by decide +kernel, by decide +kernel⟩, by decide +kernel, fun h => absurd h (by decide), fun _ => ⟨am 732 rfl rfl, am 733 rfl rfl, by decide +kernel⟩, fun h => absurd h (by decide)⟩
set_option maxRecDepth 100000 in
theorem mw127 : Mw 127 := ⟨am 738 rfl rfl, am 7 rfl rfl, by decide +kernel, ⟨by decide +kernel, by decide +kernel⟩, by decide +kernel, fun h => absurd h (by decide), fun _ => ⟨am 736 rfl rfl, am 737 rfl rfl, by decide +kernel⟩, fun h => absurd h (by decide)⟩
set_option maxRecDepth 100000 in
theorem mw128 : Mw 128 := ⟨am 742 rfl rfl, am 7 rfl rfl, by decide +kernel, ⟨by decide +kernel, by decide +kernel⟩, by decide +kernel, fun h => absurd h (by decide), fun _ => ⟨am 740 rfl rfl, am 741 rfl rfl, by decide +kernel⟩, fun h => absurd h (by decide)⟩
set_option maxRecDepth 100000 in
theorem mw129 : Mw 129 := ⟨am 747 rfl rfl, am 7 rfl rfl, by decide +kernel, ⟨by decide +kernel, by decide +kernel⟩, by decide +kernel, fun h => absurd h (by decide), fun _ => ⟨am 745 rfl rfl, am 746 rfl rfl, by decide +kernel⟩, fun h => absurd h (by decide)⟩
set_option maxRecDepth 100000 in
theorem mw130 : Mw 130 := ⟨am 760 rfl rfl, am 7 rfl rfl, by decide +kernel, ⟨by decide +kernel, by decide +kernel⟩, by decide +kernel, fun h => absurd h (by decide), fun _ => ⟨am 759 rfl rfl, am2 27 rfl rfl, by decide +kernel⟩, fun h => absurd h (by decide)⟩
set_option maxRecDepth 100000 in
theorem mw131 : Mw 131 := ⟨am 764 rfl rfl, am 7 rfl rfl, by decide +kernel, ⟨by decide +kernel, by decide +kernel⟩, by decide +kernel, fun h => absurd h (by decide), fun _ => ⟨am 763 rfl rfl, am2 28 rfl rfl, by decide +kernel⟩, fun h => absurd h (by decide)⟩
set_option maxRecDepth 100000 in
theorem mw132 : Mw 132 := ⟨am 775 rfl rfl, am 7 rfl rfl, by decide +kernel, ⟨by decide +kernel, by decide +kernel⟩, by decide +kernel, fun h => absurd h (by decide), fun _ => ⟨am 774 rfl rfl, am2 30 rfl rfl, by decide +kernel⟩, fun h => absurd h (by decide)⟩
set_option maxRecDepth 100000 in
theorem mw133 : Mw 133 := ⟨am 768 rfl rfl, am 7 rfl rfl, by decide +kernel, ⟨by decide +kernel, by decide +kernel⟩, by decide +kernel, fun h => absurd h (by decide), fun _ => ⟨am 767 rfl rfl, am2 29 rfl rfl, by decide +kernel⟩, fun h => absurd h (by decide)⟩
set_option maxRecDepth 100000 in
theorem mw134 : Mw 134 := ⟨am 771 rfl rfl, am 7 rfl rfl, by decide +kernel, ⟨by decide +kernel, by decide +kernel⟩, by decide +kernel, fun _ => ⟨am 770 rfl rfl, by decide +kernel⟩, fun h => absurd h (by decide), fun h => absurd h (by decide)⟩
set_option maxRecDepth 100000 in
theorem mw135 : Mw 135 := ⟨am 756 rfl rfl, am 7 rfl rfl, by decide +kernel, ⟨by decide +kernel, by decide +kernel⟩, by decide +kernel, fun h => absurd h (by decide), fun _ => ⟨am 755 rfl rfl, am2 26 rfl rfl, by decide +kernel⟩, fun h => absurd h (by decide)⟩
set_option maxRecDepth 100000 in
theorem mw136 : Mw 136 := ⟨am 752 rfl rfl, am 7 rfl rfl, by decide +kernel, ⟨by decide +kernel, by decide +kernel⟩, by decide +kernel, fun h => absurd h (by decide), fun _ => ⟨am 750 rfl rfl, am 751 rfl rfl, by decide +kernel⟩, fun h => absurd h (by decide)⟩
set_option maxRecDepth 100000 in
theorem mw137 : Mw 137 := ⟨am 799 rfl rfl, am 7 rfl rfl, by decide +kernel, ⟨by decide +kernel, by decide +kernel⟩, by decide +kernel, fun h => absurd h (by decide), fun _ => ⟨am 798 rfl rfl, am2 34 rfl rfl, by decide +kernel⟩, fun h => absurd h (by decide)⟩
set_option maxRecDepth 100000 in
theorem mw138 : Mw 138 := ⟨am 795 rfl rfl, am 7 rfl rfl, by decide +kernel, ⟨by decide +kernel, by decide +kernel⟩, by decide +kernel, fun h => absurd h (by decide), fun _ => ⟨am 794 rfl rfl, am2 33 rfl rfl, by decide +kernel⟩, fun h => absurd h (by decide)⟩
set_option maxRecDepth 100000 in
theorem mw139 : Mw 139 := ⟨am 821 rfl rfl, am 7 rfl rfl, by decide +kernel, ⟨by decide +kernel, by decide +kernel⟩, by decide +kernel, fun _ => ⟨am 820 rfl rfl, by decide +kernel⟩, fun h => absurd h (by decide), fun h => absurd h (by decide)⟩
set_option maxRecDepth 100000 in
theorem mw140 : Mw 140 := ⟨am 818 rfl rfl, am 7 rfl rfl, by decide +kernel, ⟨by decide +kernel, by decide +kernel⟩, by decide +kernel, fun _ => ⟨am 817 rfl rfl, by decide +kernel⟩, fun h => absurd h (by decide), fun h => absurd h (by decide)⟩
set_option maxRecDepth 100000 in
theorem mw141 : Mw 141 := ⟨am 832 rfl rfl, am 7 rfl rfl, by decide +kernel, ⟨by decide +kernel, by decide +kernel⟩, by decide +kernel, fun h => absurd h (by decide), fun _ => ⟨am 831 rfl rfl, am2 36 rfl rfl, by decide +kernel⟩, fun h => absurd h (by decide)⟩
set_option maxRecDepth 100000 in
theorem mw142 : Mw 142 := ⟨am 791 rfl rfl, am 7 rfl rfl, by decide +kernel, ⟨by decide +kernel, by decide +kernel⟩, by decide +kernel, fun h => absurd h (by decide), fun _ => ⟨am 790 rfl rfl, am2 32 rfl rfl, by decide +kernel⟩, fun h => absurd h (by decide)⟩
set_option maxRecDepth 100000 in
theorem mw143 : Mw 143 := ⟨am 783 rfl rfl, am 7 rfl rfl, by decide +kernel, ⟨by decide +kernel, by decide +kernel⟩, by decide +kernel, fun h => absurd h (by decide), fun _ => ⟨am 782 rfl rfl, am2 31 rfl rfl, by decide +kernel⟩, fun h => absurd h (by decide)⟩
set_option maxRecDepth 100000 in
theorem mw144 : Mw 144 := ⟨am 779 rfl rfl, am 7 rfl rfl, by decide +kernel, ⟨by decide +kernel, by decide +kernel⟩, by decide +kernel, fun h => absurd h (by decide), fun _ => ⟨am 777 rfl rfl, am 778 rfl rfl, by decide +kernel⟩, fun h => absurd h (by decide)⟩
set_option maxRecDepth 100000 in
theorem mw145 : Mw 145 := ⟨am 787 rfl rfl, am 7 rfl rfl, by decide +kernel, ⟨by decide +kernel, by decide +kernel⟩, by decide +kernel, fun h => absurd h (by decide), fun _ => ⟨am 785 rfl rfl, am 786 rfl rfl, by decide +kernel⟩, fun h => absurd h (by decide)⟩
set_option maxRecDepth 100000 in
theorem mw146 : Mw 146 := ⟨am 809 rfl rfl, am 7 rfl rfl, by decide +kernel, ⟨by decide +kernel, by decide +kernel⟩, by decide +kernel, fun h => absurd h (by decide), fun _ => ⟨am 808 rfl rfl, am2 35 rfl rfl, by decide +kernel⟩, fun h => absurd h (by decide)⟩
set_option maxRecDepth 100000 in
theorem mw147 : Mw 147 := ⟨am 803 rfl rfl, am 7 rfl rfl, by decide +kernel, ⟨by decide +kernel, by decide +kernel⟩, by decide +kernel, fun h => absurd h (by decide), fun _ => ⟨am 801 rfl rfl, am 802 rfl rfl, by decide +kernel⟩, fun h => absurd h (by decide)⟩
set_option maxRecDepth 100000 in
theorem mw148 : Mw 148 := ⟨am 813 rfl rfl, am 7 rfl rfl, by decide +kernel, ⟨by decide +kernel, by decide +kernel⟩, by decide +kernel, fun h => absurd h (by decide), fun _ => ⟨am 811 rfl rfl, am 812 rfl rfl, by decide +kernel⟩, fun h => absurd h (by decide)⟩
set_option maxRecDepth 100000 in
theorem mw149 : Mw 149 := ⟨am 825 rfl rfl, am 7 rfl rfl, by decide +kernel, ⟨by decide +kernel, by decide +kernel⟩, by decide +kernel, fun h => absurd h (by decide), fun _ => ⟨am 823 rfl rfl, am 824 rfl rfl, by decide +kernel⟩, fun h => absurd h (by decide)⟩
set_option maxRecDepth 100000 in
theorem mw150 : Mw 150 := ⟨am 837 rfl rfl, am 7 rfl rfl, by decide +kernel, ⟨by decide +kernel, by decide +kernel⟩, by decide +kernel, fun h => absurd h (by decide), fun _ => ⟨am 835 rfl rfl, am 836 rfl rfl, by decide +kernel⟩, fun h => absurd h (by decide)⟩
set_option maxRecDepth 100000 in
theorem mw151 : Mw 151 := ⟨am 841 rfl rfl, am 7 rfl rfl, by decide +kernel, ⟨by decide +kernel, by decide +kernel⟩, by decide +kernel, fun h => absurd h (by decide), fun _ => ⟨am 840 rfl rfl, am2 37 rfl rfl, by decide +kernel⟩, fun h => absurd h (by decide)⟩
set_option maxRecDepth 100000 in
theorem mw152 : Mw 152 := ⟨am 845 rfl rfl, am 7 rfl rfl, by decide +kernel, ⟨by decide +kernel, by decide +kernel⟩, by decide +kernel, fun h => absurd h (by decide), fun _ => ⟨am 844 rfl rfl, am2 38 rfl rfl, by decide +kernel⟩, fun h => absurd h (by decide)⟩
set_option maxRecDepth 100000 in
theorem mw153 : Mw 153 := ⟨am 861 rfl rfl, am 7 rfl rfl, by decide +kernel, ⟨by decide +kernel, by decide +kernel⟩, by decide +kernel, fun h => absurd h (by decide), fun _ => ⟨am 860 rfl rfl, am2 41 rfl rfl, by decide +kernel⟩, fun h => absurd h (by decide)⟩
set_option maxRecDepth 100000 in
theorem mw154 : Mw 154 := ⟨am 865 rfl rfl, am 7 rfl rfl, by decide +kernel, ⟨by decide +kernel, by decide +kernel⟩, by decide +kernel, fun h => absurd h (by decide), fun _ => ⟨am 864 rfl rfl, am2 42 rfl rfl, by decide +kernel⟩, fun h => absurd h (by decide)⟩
set_option maxRecDepth 100000 in
theorem mw155 : Mw 155 := ⟨am 869 rfl rfl, am 7 rfl rfl, by decide +kernel, ⟨by decide +kernel, by decide +kernel⟩, by decide +kernel, fun h => absurd h (by decide), fun _ => ⟨am 868 rfl rfl, am2 43 rfl rfl, by decide +kernel⟩, fun h => absurd h (by decide)⟩
set_option maxRecDepth 100000 in
theorem mw156 : Mw 156 := ⟨am 857 rfl rfl, am 7 rfl rfl, by decide +kernel, ⟨by decide +kernel, by decide +kernel⟩, by decide +kernel, fun h => absurd h (by decide), fun _ => ⟨am 856 rfl rfl, am2 40 rfl rfl, by decide +kernel⟩, fun h => absurd h (by decide)⟩
set_option maxRecDepth 100000 in
theorem mw157 : Mw 157 := ⟨am 877 rfl rfl, am 7 rfl rfl, by decide +kernel, ⟨by decide +kernel, by decide +kernel⟩, by decide +kernel, fun h => absurd h (by decide), fun _ => ⟨am 876 rfl rfl, am2 44 rfl rfl, by decide +kernel⟩, fun h => absurd h (by decide)⟩
set_option maxRecDepth 100000 in
theorem mw158 : Mw 158 := ⟨am 881 rfl rfl, am 7 rfl rfl, by decide +kernel, ⟨by decide +kernel, by decide +kernel⟩, by decide +kernel, fun h => absurd h (by decide), fun _ => ⟨am 880 rfl rfl, am2 45 rfl rfl, by decide +kernel⟩, fun h => absurd h (by decide)⟩
set_option maxRecDepth 100000 in
theorem mw159 : Mw 159 := ⟨am 853 rfl rfl, am 7 rfl rfl, by decide +kernel, ⟨by decide +kernel, by decide +kernel⟩, by decide +kernel, fun h => absurd h (by decide), fun _ => ⟨am 852 rfl rfl, am2 39 rfl rfl, by decide +kernel⟩, fun h => absurd h (by decide)⟩
set_option maxRecDepth 100000 in
theorem mw160 : Mw 160 := ⟨am 849 rfl rfl, am 7 rfl rfl, by decide +kernel, ⟨by decide +kernel, by decide +kernel⟩, by decide +kernel, fun h => absurd h (by decide), fun _ => ⟨am 847 rfl rfl, am 848 rfl rfl, by decide +kernel⟩, fun h => absurd h (by decide)⟩
set_option maxRecDepth 100000 in
theorem mw161 : Mw 161 := ⟨am 873 rfl rfl, am 7 rfl rfl, by decide +kernel, ⟨by decide +kernel, by decide +kernel⟩, by decide +kernel, fun h => absurd h (by decide), fun _ => ⟨am 871 rfl rfl, am 872 rfl rfl, by decide +kernel⟩, fun h => absurd h (by decide)⟩
set_option maxRecDepth 100000 in
theorem mw162 : Mw 162 := ⟨am 889 rfl rfl, am 7 rfl rfl, by decide +kernel, ⟨by decide +kernel, by decide +kernel⟩, by decide +kernel, fun h => absurd h (by decide), fun _ => ⟨am 888 rfl rfl, am2 46 rfl rfl, by decide +kernel⟩, fun h => absurd h (by decide)⟩
set_option maxRecDepth 100000 in
theorem mw163 : Mw 163 := ⟨am 893 rfl rfl, am 7 rfl rfl, by decide +kernel, ⟨by decide +kernel, by decide +kernel⟩, by decide +kernel, fun h => absurd h (by decide), fun _ => ⟨am 892 rfl rfl, am2 47 rfl rfl, by decide +kernel⟩, fun h => absurd h (by decide)⟩
set_option maxRecDepth 100000 in
theorem mw164 : Mw 164 := ⟨am 885 rfl rfl, am 7 rfl rfl, by decide +kernel, ⟨by decide +kernel, by decide +kernel⟩, by decide +kernel, fun h => absurd h (by decide), fun _ => ⟨am 883 rfl rfl, am 884 rfl rfl, by decide +kernel⟩, fun h => absurd h (by decide)⟩
set_option maxRecDepth 100000 in
theorem mw165 : Mw 165 := ⟨am 901 rfl rfl, am 7 rfl rfl, by decide +kernel, ⟨by decide +kernel, by decide +kernel⟩, by decide +kernel, fun h => absurd h (by decide), fun _ => ⟨am 900 rfl rfl, am2 48 rfl rfl, by decide +kernel⟩, fun h => absurd h (by decide)⟩
set_option maxRecDepth 100000 in
theorem mw166 : Mw 166 := ⟨am 904 rfl rfl, am 7 rfl rfl, by decide +kernel, ⟨by decide +kernel, by decide +kernel⟩, by decide +kernel, fun _ => ⟨am 903 rfl rfl, by decide +kernel⟩, fun h => absurd h (by decide), fun h => absurd h (by decide)⟩
set_option maxRecDepth 100000 in
theorem mw167 : Mw 167 := ⟨am 897 rfl rfl, am 7 rfl rfl, by decide +kernel, ⟨by decide +kernel, by decide +kernel⟩, by decide +kernel, fun h => absurd h (by decide), fun _ => ⟨am 895 rfl rfl, am 896 rfl rfl, by decide +kernel⟩, fun h => absurd h (by decide)⟩
set_option maxRecDepth 100000 in
theorem mw168 : Mw 168 := ⟨am 912 rfl rfl, am 7 rfl rfl, by decide +kernel, ⟨by decide +kernel, by decide +kernel⟩, by decide +kernel, fun h => absurd h (by decide), fun _ => ⟨am 911 rfl rfl, am2 49 rfl rfl, by decide +kernel⟩, fun h => absurd h (by decide)⟩
set_option maxRecDepth 100000 in
theorem mw169 : Mw 169 := ⟨am 908 rfl rfl, am 7 rfl rfl, by decide +kernel, ⟨by decide +kernel, by decide +kernel⟩, by decide +kernel, fun h => absurd h (by decide), fun _ => ⟨am 906 rfl rfl, am 907 rfl rfl, by decide +kernel⟩, fun h => absurd h (by decide)⟩
set_option maxRecDepth 100000 in
theorem mw170 : Mw 170 := ⟨am 916 rfl rfl, am 7 rfl rfl, by decide +kernel, ⟨by decide +kernel, by decide +kernel⟩, by decide +kernel, fun h => absurd h (by decide), fun _ => ⟨am 914 rfl rfl, am 915 rfl rfl, by decide +kernel⟩, fun h => absurd h (by decide)⟩
set_option maxRecDepth 100000 in
theorem mw171 : Mw 171 := ⟨am 924 rfl rfl, am 7 rfl rfl, by decide +kernel, ⟨by decide +kernel, by decide +kernel⟩, by decide +kernel, fun h => absurd h (by decide), fun _ => ⟨am 923 rfl rfl, am2 50 rfl rfl, by decide +kernel⟩, fun h => absurd h (by decide)⟩
set_option maxRecDepth 100000 in
theorem mw172 : Mw 172 := ⟨am 927 rfl rfl, am 7 rfl rfl, by decide +kernel, ⟨by decide +kernel, by decide +kernel⟩, by decide +kernel, fun _ => ⟨am 926 rfl rfl, by decide +kernel⟩, fun h => absurd h (by decide), fun h => absurd h (by decide)⟩
set_option maxRecDepth 100000 in
theorem mw173 : Mw 173 := ⟨am 920 rfl rfl, am 7 rfl rfl, by decide +kernel, ⟨by decide +kernel, by decide +kernel⟩, by decide +kernel, fun h => absurd h (by decide), fun _ => ⟨am 918 rfl rfl, am 919 rfl rfl, by decide +kernel⟩, fun h => absurd h (by decide)⟩
set_option maxRecDepth 100000 in
theorem mw174 : Mw 174 := ⟨am 931 rfl rfl, am 7 rfl rfl, by decide +kernel, ⟨by decide +kernel, by decide +kernel⟩, by decide +kernel, fun h => absurd h (by decide), fun _ => ⟨am 929 rfl rfl, am 930 rfl rfl, by decide +kernel⟩, fun h => absurd h (by decide)⟩
set_option maxRecDepth 100000 in
theorem mw175 : Mw 175 := ⟨am 943 rfl rfl, am 7 rfl rfl, by decide +kernel, ⟨by decide +kernel, by decide +kernel⟩, by decide +kernel, fun h => absurd h (by decide), fun _ => ⟨am 942 rfl rfl, am2 52 rfl rfl, by decide +kernel⟩, fun h => absurd h (by decide)⟩
set_option maxRecDepth 100000 in
theorem mw176 : Mw 176 := ⟨am 939 rfl rfl, am 7 rfl rfl, by decide +kernel, ⟨by decide +kernel, by decide +kernel⟩, by decide +kernel, fun h => absurd h (by decide), fun _ => ⟨am 938 rfl rfl, am2 51 rfl rfl, by decide +kernel⟩, fun h => absurd h (by decide)⟩
set_option maxRecDepth 100000 in
theorem mw177 : Mw 177 := ⟨am 935 rfl rfl, am 7 rfl rfl, by decide +kernel, ⟨by decide +kernel, by decide +kernel⟩, by decide +kernel, fun h => absurd h (by decide), fun _ => ⟨am 933 rfl rfl, am 934 rfl rfl, by decide +kernel⟩, fun h => absurd h (by decide)⟩
set_option maxRecDepth 100000 in
theorem mw178 : Mw 178 := ⟨am 947 rfl rfl, am 7 rfl rfl, by decide +kernel, ⟨by decide +kernel, by decide +kernel⟩, by decide +kernel, fun h => absurd h (by decide), fun _ => ⟨am 945 rfl rfl, am 946 rfl rfl, by decide +kernel⟩, fun h => absurd h (by decide)⟩
set_option maxRecDepth 100000 in
theorem mw179 : Mw 179 := ⟨am 951 rfl rfl, am 7 rfl rfl, by decide +kernel, ⟨by decide +kernel, by decide +kernel⟩, by decide +kernel, fun h => absurd h (by decide), fun _ => ⟨am 949 rfl rfl, am 950 rfl rfl, by decide +kernel⟩, fun h => absurd h (by decide)⟩
set_option maxRecDepth 100000 in
theorem mw180 : Mw 180 := ⟨am 959 rfl rfl, am 7 rfl rfl, by decide +kernel, ⟨by decide +kernel, by decide +kernel⟩, by decide +kernel, fun h => absurd h (by decide), fun _ => ⟨am 958 rfl rfl, am2 53 rfl rfl, by decide +kernel⟩, fun h => absurd h (by decide)⟩
set_option maxRecDepth 100000 in
theorem mw181 : Mw 181 := ⟨am 955 rfl rfl, am 7 rfl rfl, by decide +kernel, ⟨by decide +kernel, by decide +kernel⟩, by decide +kernel, fun h => absurd h (by decide), fun _ => ⟨am 953 rfl rfl, am 954 rfl rfl, by decide +kernel⟩, fun h => absurd h (by decide)⟩
set_option maxRecDepth 100000 in
theorem mw182 : Mw 182 := ⟨am 963 rfl rfl, am 7 rfl rfl, by decide +kernel, ⟨by decide +kernel, by decide +kernel⟩, by decide +kernel, fun h => absurd h (by decide), fun _ => ⟨am 961 rfl rfl, am 962 rfl rfl, by decide +kernel⟩, fun h => absurd h (by decide)⟩
set_option maxRecDepth 100000 in
theorem mw183 : Mw 183 := ⟨am 967 rfl rfl, am 7 rfl rfl, by decide +kernel, ⟨by decide +kernel, by decide +kernel⟩, by decide +kernel, fun h => absurd h (by decide), fun _ => ⟨am 965 rfl rfl, am 966 rfl rfl, by decide +kernel⟩, fun h => absurd h (by decide)⟩
set_option maxRecDepth 100000 in
theorem mw185 : Mw 185 := ⟨am 359 rfl rfl, am 9 rfl rfl, by decide +kernel, ⟨by decide +kernel, by decide +kernel⟩, by decide +kernel, fun _ => ⟨am 358 rfl rfl, by decide +kernel⟩, fun h => absurd h (by decide), fun h => absurd h (by decide)⟩
theorem m_all : ∀ {k : Nat}, k < 186 → k ≠ 184 → Mw k
  | 0, _, _ => mw0
  | 1, _, _ => mw1
  | 2, _, _ => mw2
  | 3, _, _ => mw3
  | 4, _, _ => mw4
  | 5, _, _ => mw5
  | 6, _, _ => mw6
  | 7, _, _ => mw7
  | 8, _, _ => mw8
  | 9, _, _ => mw9
  | 10, _, _ => mw10
  | 11, _, _ => mw11
  | 12, _, _ => mw12
  | 13, _, _ => mw13
  | 14, _, _ => mw14
  | 15, _, _ => mw15
  | 16, _, _ => mw16
  | 17, _, _ => mw17
  | 18, _, _ => mw18
  | 19, _, _ => mw19
  | 20, _, _ => mw20
  | 21, _, _ => mw21
  | 22, _, _ => mw22
  | 23, _, _ => mw23
  | 24, _, _ => mw24
  | 25, _, _ => mw25
  | 26, _, _ => mw26
  | 27, _, _ => mw27
  | 28, _, _ => mw28
  | 29, _, _ => mw29
  | 30, _, _ => mw30
  | 31, _, _ => mw31
  | 32, _, _ => mw32
  | 33, _, _ => mw33
  | 34, _, _ => mw34
  | 35, _, _ => mw35
  | 36, _, _ => mw36
  | 37, _, _ => mw37
  | 38, _, _ => mw38
  | 39, _, _ => mw39
  | 40, _, _ => mw40
  | 41, _, _ => mw41
  | 42, _, _ => mw42
  | 43, _, _ => mw43
  | 44, _, _ => mw44
  | 45, _, _ => mw45
  | 46, _, _ => mw46
  | 47, _, _ => mw47
  | 48, _, _ => mw48
  | 49, _, _ => mw49
  | 50, _, _ => mw50
  | 51, _, _ => mw51
  | 52, _, _ => mw52
  | 53, _, _ => mw53
  | 54, _, _ => mw54
  | 55, _, _ => mw55
  | 56, _, _ => mw56
  | 57, _, _ => mw57
  | 58, _, _ => mw58
  | 59, _, _ => mw59
  | 60, _, _ => mw60
  | 61, _, _ => mw61
  | 62, _, _ => mw62
  | 63, _, _ => mw63
  | 64, _, _ => mw64
  | 65, _, _ => mw65
  | 66, _, _ => mw66
  | 67, _, _ => mw67
  | 68, _, _ => mw68
  | 69, _, _ => mw69
  | 70, _, _ => mw70
  | 71, _, _ => mw71
  | 72, _, _ => mw72
  | 73, _, _ => mw73
  | 74, _, _ => mw74
  | 75, _, _ => mw75
  | 76, _, _ => mw76
  | 77, _, _ => mw77
  | 78, _, _ => mw78
  | 79, _, _ => mw79
  | 80, _, _ => mw80
  | 81, _, _ => mw81
  | 82, _, _ => mw82
  | 83, _, _ => mw83
  | 84, _, _ => mw84
  | 85, _, _ => mw85
  | 86, _, _ => mw86
  | 87, _, _ => mw87
  | 88, _, _ => mw88
  | 89, _, _ => mw89
  | 90, _, _ => mw90
  | 91, _, _ => mw91
  | 92, _, _ => mw92
  | 93, _, _ => mw93
  | 94, _, _ => mw94
  | 95, _, _ => mw95
  | 96, _, _ => mw96
  | 97, _, _ => mw97
  | 98, _, _ => mw98
  | 99, _, _ => mw99
  | 100, _, _ => mw100
  | 101, _, _ => mw101
  | 102, _, _ => mw102
  | 103, _, _ => mw103
  | 104, _, _ => mw104
  | 105, _, _ => mw105
  | 106, _, _ => mw106
  | 107, _, _ => mw107
  | 108, _, _ => mw108
  | 109, _, _ => mw109
  | 110, _, _ => mw110
  | 111, _, _ => mw111
  | 112, _, _ => mw112
  | 113, _, _ => mw113
  | 114, _, _ => mw114
  | 115, _, _ => mw115
  | 116, _, _ => mw116
  | 117, _, _ => mw117
  | 118, _, _ => mw118
  | 119, _, _ => mw119
  | 120, _, _ => mw120
  | 121, _, _ => mw121
  | 122, _, _ => mw122
  | 123, _, _ => mw123
  | 124, _, _ => mw124
  | 125, _, _ => mw125
  | 126, _, _ => mw126
  | 127, _, _ => mw127
  | 128, _, _ => mw128
  | 129, _, _ => mw129
  | 130, _, _ => mw130
  | 131, _, _ => mw131
  | 132, _, _ => mw132
  | 133, _, _ => mw133
  | 134, _, _ => mw134
  | 135, _, _ => mw135
  | 136, _, _ => mw136
  | 137, _, _ => mw137
  | 138, _, _ => mw138
  | 139, _, _ => mw139
  | 140, _, _ => mw140
  | 141, _, _ => mw141
  | 142, _, _ => mw142
  | 143, _, _ => mw143
  | 144, _, _ => mw144
  | 145, _, _ => mw145
  | 146, _, _ => mw146
  | 147, _, _ => mw147
  | 148, _, _ => mw148
  | 149, _, _ => mw149
  | 150, _, _ => mw150
  | 151, _, _ => mw151
  | 152, _, _ => mw152
  | 153, _, _ => mw153
  | 154, _, _ => mw154
  | 155, _, _ => mw155
  | 156, _, _ => mw156
  | 157, _, _ => mw157
  | 158, _, _ => mw158
  | 159, _, _ => mw159
  | 160, _, _ => mw160
  | 161, _, _ => mw161
  | 162, _, _ => mw162
  | 163, _, _ => mw163
  | 164, _, _ => mw164
  | 165, _, _ => mw165
  | 166, _, _ => mw166
  | 167, _, _ => mw167
  | 168, _, _ => mw168
  | 169, _, _ => mw169
  | 170, _, _ => mw170
  | 171, _, _ => mw171
  | 172, _, _ => mw172
  | 173, _, _ => mw173
  | 174, _, _ => mw174
  | 175, _, _ => mw175
  | 176, _, _ => mw176
  | 177, _, _ => mw177
  | 178, _, _ => mw178
  | 179, _, _ => mw179
  | 180, _, _ => mw180
  | 181, _, _ => mw181
  | 182, _, _ => mw182
  | 183, _, _ => mw183
  | 184, _, h => absurd rfl h
  | 185, _, _ => mw185
  | k + 186, h, _ => absurd h (by omega)
set_option maxRecDepth 100000 in
theorem mw_0 : Cond.initialized "java/lang/Math" ∈ AW := am 8 rfl rfl
def MtP (q : Nat × Nat × Nat × Nat × Nat) : Prop := match q.2.2.2.2 with
  | 0 => q.2.2.2.1 = naT.getD q.2.2.1 99 ∧ kdT.getD q.2.2.1 0 = 0 ∧ Cond.methodLink (ownS q.1) q.2.1 (yM q.2.2.1) ∈ AW
  | 1 => q.2.2.2.1 = naT.getD q.2.2.1 99 ∧ kdT.getD q.2.2.1 0 = 1 ∧ Cond.methodLink (ownS q.1) q.2.1 (yM q.2.2.1) ∈ AW
  | 2 => q.2.2.2.1 = naT.getD q.2.2.1 99 ∧ kdT.getD q.2.2.1 0 = 2 ∧ Cond.methodLink (ownS q.1) q.2.1 (yM q.2.2.1) ∈ AW
  | 3 => q.2.2.2.1 = naT.getD q.2.2.1 99 ∧ kdT.getD q.2.2.1 0 = 0 ∧ Cond.methodLinkNest (ownS q.1) q.2.1 (yM q.2.2.1) RX5 ∈ tables_1
  | 4 => q.2.2.2.1 = naT.getD q.2.2.1 99 ∧ kdT.getD q.2.2.1 0 = 2 ∧ Cond.methodLinkNest (ownS q.1) q.2.1 (yM q.2.2.1) RX5 ∈ tables_1
  | 5 => Cond.methodLink (ownS q.1) q.2.1 Lib.objectInit ∈ AW
  | 6 => Cond.methodLink (ownS q.1) q.2.1 Lib.Math.abs.name ∈ AW ∧ Cond.static Lib.Math.abs.name ∈ AW ∧ Cond.code Lib.Math.abs.name Lib.Math.abs.code 1 (some .int) ∈ AW
  | 7 => Cond.methodLink (ownS q.1) q.2.1 Lib.Math.max.name ∈ AW ∧ Cond.static Lib.Math.max.name ∈ AW ∧ Cond.code Lib.Math.max.name Lib.Math.max.code 2 (some .int) ∈ AW
  | 8 => Cond.methodLink (ownS q.1) q.2.1 Lib.Math.min.name ∈ AW ∧ Cond.static Lib.Math.min.name ∈ AW ∧ Cond.code Lib.Math.min.name Lib.Math.min.code 2 (some .int) ∈ AW
  | _ => False
set_option maxRecDepth 100000 in
theorem mms_abs : Cond.static Lib.Math.abs.name ∈ AW := am 293 rfl rfl
set_option maxRecDepth 100000 in
theorem mmc_abs : Cond.code Lib.Math.abs.name Lib.Math.abs.code 1 (some .int) ∈ AW := am 294 (by decide +kernel) rfl
set_option maxRecDepth 100000 in
theorem mms_max : Cond.static Lib.Math.max.name ∈ AW := am 427 rfl rfl
set_option maxRecDepth 100000 in
theorem mmc_max : Cond.code Lib.Math.max.name Lib.Math.max.code 2 (some .int) ∈ AW := am 428 (by decide +kernel) rfl
set_option maxRecDepth 100000 in
theorem mms_min : Cond.static Lib.Math.min.name ∈ AW := am 424 rfl rfl
set_option maxRecDepth 100000 in
theorem mmc_min : Cond.code Lib.Math.min.name Lib.Math.min.code 2 (some .int) ∈ AW := am 425 (by decide +kernel) rfl
set_option maxRecDepth 100000 in
theorem mtw0 : MtP (0, 3, 0, 0, 5) := am 83 rfl rfl
set_option maxRecDepth 100000 in
theorem mtw1 : MtP (0, 29, 54, 3, 1) := ⟨rfl, rfl, am 367 rfl rfl⟩
set_option maxRecDepth 100000 in
theorem mtw2 : MtP (0, 35, 2, 4, 1) := ⟨rfl, rfl, am 371 rfl rfl⟩
set_option maxRecDepth 100000 in
theorem mtw3 : MtP (0, 39, 51, 3, 1) := ⟨rfl, rfl, am 379 rfl rfl⟩
set_option maxRecDepth 100000 in
theorem mtw4 : MtP (0, 43, 3, 4, 1) := ⟨rfl, rfl, am 383 rfl rfl⟩
set_option maxRecDepth 100000 in
theorem mtw5 : MtP (0, 47, 4, 4, 1) := ⟨rfl, rfl, am 375 rfl rfl⟩
set_option maxRecDepth 100000 in
theorem mtw6 : MtP (0, 50, 5, 2, 0) := ⟨rfl, rfl, am 387 rfl rfl⟩
set_option maxRecDepth 100000 in
theorem mtw7 : MtP (0, 54, 6, 1, 1) := ⟨rfl, rfl, am 394 rfl rfl⟩
set_option maxRecDepth 100000 in
theorem mtw8 : MtP (1, 1, 0, 0, 5) := am 103 rfl rfl
set_option maxRecDepth 100000 in
theorem mtw9 : MtP (1, 9, 15, 1, 4) := ⟨rfl, rfl, List.mem_of_getElem? (i := 105) rfl⟩
set_option maxRecDepth 100000 in
theorem mtw10 : MtP (1, 20, 12, 4, 1) := ⟨rfl, rfl, am 537 rfl rfl⟩
set_option maxRecDepth 100000 in
theorem mtw11 : MtP (1, 24, 13, 3, 1) := ⟨rfl, rfl, am 544 rfl rfl⟩
set_option maxRecDepth 100000 in
theorem mtw12 : MtP (1, 35, 19, 4, 1) := ⟨rfl, rfl, am 541 rfl rfl⟩
set_option maxRecDepth 100000 in
theorem mtw13 : MtP (1, 39, 26, 2, 1) := ⟨rfl, rfl, am 542 rfl rfl⟩
set_option maxRecDepth 100000 in
theorem mtw14 : MtP (1, 43, 25, 2, 1) := ⟨rfl, rfl, am 543 rfl rfl⟩
set_option maxRecDepth 100000 in
theorem mtw15 : MtP (1, 46, 27, 4, 1) := ⟨rfl, rfl, am 548 rfl rfl⟩
set_option maxRecDepth 100000 in
theorem mtw16 : MtP (1, 50, 14, 3, 0) := ⟨rfl, rfl, am 549 rfl rfl⟩
set_option maxRecDepth 100000 in
theorem mtw17 : MtP (2, 3, 0, 0, 5) := am 39 rfl rfl
set_option maxRecDepth 100000 in
theorem mtw18 : MtP (2, 22, 99, 2, 3) := ⟨rfl, rfl, List.mem_of_getElem? (i := 236) rfl⟩
set_option maxRecDepth 100000 in
theorem mtw19 : MtP (2, 26, 27, 4, 1) := ⟨rfl, rfl, am 261 rfl rfl⟩
set_option maxRecDepth 100000 in
theorem mtw20 : MtP (2, 30, 28, 4, 1) := ⟨rfl, rfl, am 265 rfl rfl⟩
set_option maxRecDepth 100000 in
theorem mtw21 : MtP (2, 33, 32, 2, 1) := ⟨rfl, rfl, am 249 rfl rfl⟩
set_option maxRecDepth 100000 in
theorem mtw22 : MtP (2, 37, 25, 2, 1) := ⟨rfl, rfl, am 257 rfl rfl⟩
set_option maxRecDepth 100000 in
theorem mtw23 : MtP (2, 41, 33, 3, 1) := ⟨rfl, rfl, am 269 rfl rfl⟩
set_option maxRecDepth 100000 in
theorem mtw24 : MtP (2, 44, 26, 2, 1) := ⟨rfl, rfl, am 253 rfl rfl⟩
set_option maxRecDepth 100000 in
theorem mtw25 : MtP (2, 47, 29, 4, 1) := ⟨rfl, rfl, am 273 rfl rfl⟩
set_option maxRecDepth 100000 in
theorem mtw26 : MtP (2, 51, 35, 3, 1) := ⟨rfl, rfl, am 288 rfl rfl⟩
set_option maxRecDepth 100000 in
theorem mtw27 : MtP (2, 55, 0, 0, 8) := ⟨am 423 rfl rfl, mms_min, mmc_min⟩
set_option maxRecDepth 100000 in
theorem mtw28 : MtP (2, 60, 0, 0, 7) := ⟨am 426 rfl rfl, mms_max, mmc_max⟩
set_option maxRecDepth 100000 in
theorem mtw29 : MtP (2, 63, 34, 1, 1) := ⟨rfl, rfl, am 307 rfl rfl⟩
set_option maxRecDepth 100000 in
theorem mtw30 : MtP (2, 67, 0, 0, 6) := ⟨am 299 rfl rfl, mms_abs, mmc_abs⟩
set_option maxRecDepth 100000 in
theorem mtw31 : MtP (2, 70, 110, 2, 3) := ⟨rfl, rfl, List.mem_of_getElem? (i := 300) rfl⟩
set_option maxRecDepth 100000 in
theorem mtw32 : MtP (2, 73, 37, 1, 1) := ⟨rfl, rfl, am 308 rfl rfl⟩
set_option maxRecDepth 100000 in
theorem mtw33 : MtP (2, 76, 39, 2, 1) := ⟨rfl, rfl, am 313 rfl rfl⟩
set_option maxRecDepth 100000 in
theorem mtw34 : MtP (2, 79, 19, 4, 1) := ⟨rfl, rfl, am 457 rfl rfl⟩
set_option maxRecDepth 100000 in
theorem mtw35 : MtP (2, 83, 45, 2, 1) := ⟨rfl, rfl, am 458 rfl rfl⟩
set_option maxRecDepth 100000 in
theorem mtw36 : MtP (2, 86, 48, 3, 1) := ⟨rfl, rfl, am 329 rfl rfl⟩
set_option maxRecDepth 100000 in
theorem mtw37 : MtP (2, 89, 49, 3, 1) := ⟨rfl, rfl, am 333 rfl rfl⟩
set_option maxRecDepth 100000 in
theorem mtw38 : MtP (2, 92, 50, 3, 1) := ⟨rfl, rfl, am 341 rfl rfl⟩
set_option maxRecDepth 100000 in
theorem mtw39 : MtP (2, 95, 30, 5, 1) := ⟨rfl, rfl, am 337 rfl rfl⟩
set_option maxRecDepth 100000 in
theorem mtw40 : MtP (2, 99, 42, 3, 1) := ⟨rfl, rfl, am 345 rfl rfl⟩
set_option maxRecDepth 100000 in
theorem mtw41 : MtP (3, 3, 0, 0, 5) := am 66 rfl rfl
set_option maxRecDepth 100000 in
theorem mtw42 : MtP (3, 25, 47, 3, 1) := ⟨rfl, rfl, am 325 rfl rfl⟩
set_option maxRecDepth 100000 in
theorem mtw43 : MtP (3, 29, 46, 3, 1) := ⟨rfl, rfl, am 349 rfl rfl⟩
set_option maxRecDepth 100000 in
theorem mtw44 : MtP (3, 32, 185, 1, 0) := ⟨rfl, rfl, am 357 rfl rfl⟩
set_option maxRecDepth 100000 in
theorem mtw45 : MtP (3, 38, 56, 2, 1) := ⟨rfl, rfl, am 513 rfl rfl⟩
set_option maxRecDepth 100000 in
theorem mtw46 : MtP (4, 3, 0, 0, 5) := am 23 rfl rfl
set_option maxRecDepth 100000 in
theorem mtw47 : MtP (4, 19, 62, 2, 1) := ⟨rfl, rfl, am 155 rfl rfl⟩
set_option maxRecDepth 100000 in
theorem mtw48 : MtP (4, 23, 64, 1, 0) := ⟨rfl, rfl, am 159 rfl rfl⟩
set_option maxRecDepth 100000 in
theorem mtw49 : MtP (4, 27, 63, 2, 1) := ⟨rfl, rfl, am 162 rfl rfl⟩
set_option maxRecDepth 100000 in
theorem mtw50 : MtP (5, 1, 0, 0, 5) := am 15 rfl rfl
set_option maxRecDepth 100000 in
theorem mtw51 : MtP (5, 9, 59, 1, 4) := ⟨rfl, rfl, List.mem_of_getElem? (i := 20) rfl⟩
set_option maxRecDepth 100000 in
theorem mtw52 : MtP (5, 22, 15, 1, 4) := ⟨rfl, rfl, List.mem_of_getElem? (i := 36) rfl⟩
set_option maxRecDepth 100000 in
theorem mtw53 : MtP (5, 36, 52, 1, 4) := ⟨rfl, rfl, List.mem_of_getElem? (i := 63) rfl⟩
set_option maxRecDepth 100000 in
theorem mtw54 : MtP (5, 43, 0, 1, 4) := ⟨rfl, rfl, List.mem_of_getElem? (i := 80) rfl⟩
set_option maxRecDepth 100000 in
theorem mtw55 : MtP (5, 50, 10, 1, 4) := ⟨rfl, rfl, List.mem_of_getElem? (i := 100) rfl⟩
set_option maxRecDepth 100000 in
theorem mtw56 : MtP (5, 59, 60, 3, 1) := ⟨rfl, rfl, am 139 rfl rfl⟩
set_option maxRecDepth 100000 in
theorem mtw57 : MtP (5, 63, 61, 1, 1) := ⟨rfl, rfl, am 151 rfl rfl⟩
set_option maxRecDepth 100000 in
theorem mtw58 : MtP (5, 67, 98, 1, 0) := ⟨rfl, rfl, am 170 rfl rfl⟩
set_option maxRecDepth 100000 in
theorem mtw59 : MtP (5, 71, 65, 2, 1) := ⟨rfl, rfl, am 173 rfl rfl⟩
set_option maxRecDepth 100000 in
theorem mtw60 : MtP (5, 78, 101, 3, 1) := ⟨rfl, rfl, am 181 rfl rfl⟩
set_option maxRecDepth 100000 in
theorem mtw61 : MtP (5, 89, 99, 2, 0) := ⟨rfl, rfl, am 193 rfl rfl⟩
set_option maxRecDepth 100000 in
theorem mtw62 : MtP (5, 92, 17, 3, 1) := ⟨rfl, rfl, am 196 rfl rfl⟩
set_option maxRecDepth 100000 in
theorem mtw63 : MtP (5, 96, 19, 4, 1) := ⟨rfl, rfl, am 204 rfl rfl⟩
set_option maxRecDepth 100000 in
theorem mtw64 : MtP (5, 100, 20, 2, 1) := ⟨rfl, rfl, am 212 rfl rfl⟩
set_option maxRecDepth 100000 in
theorem mtw65 : MtP (5, 104, 21, 1, 1) := ⟨rfl, rfl, am 220 rfl rfl⟩
set_option maxRecDepth 100000 in
theorem mtw66 : MtP (5, 107, 22, 1, 1) := ⟨rfl, rfl, am 224 rfl rfl⟩
set_option maxRecDepth 100000 in
theorem mtw67 : MtP (5, 110, 23, 3, 1) := ⟨rfl, rfl, am 232 rfl rfl⟩
set_option maxRecDepth 100000 in
theorem mtw68 : MtP (5, 113, 24, 3, 1) := ⟨rfl, rfl, am 237 rfl rfl⟩
set_option maxRecDepth 100000 in
theorem mtw69 : MtP (5, 117, 31, 1, 1) := ⟨rfl, rfl, am 245 rfl rfl⟩
set_option maxRecDepth 100000 in
theorem mtw70 : MtP (5, 121, 104, 2, 0) := ⟨rfl, rfl, am 281 rfl rfl⟩
set_option maxRecDepth 100000 in
theorem mtw71 : MtP (5, 125, 105, 3, 1) := ⟨rfl, rfl, am 317 rfl rfl⟩
set_option maxRecDepth 100000 in
theorem mtw72 : MtP (5, 128, 42, 3, 1) := ⟨rfl, rfl, am 406 rfl rfl⟩
set_option maxRecDepth 100000 in
theorem mtw73 : MtP (5, 131, 39, 2, 1) := ⟨rfl, rfl, am 411 rfl rfl⟩
set_option maxRecDepth 100000 in
theorem mtw74 : MtP (5, 135, 100, 2, 0) := ⟨rfl, rfl, am 416 rfl rfl⟩
set_option maxRecDepth 100000 in
theorem mtw75 : MtP (5, 138, 41, 3, 1) := ⟨rfl, rfl, am 419 rfl rfl⟩
set_option maxRecDepth 100000 in
theorem mtw76 : MtP (5, 141, 106, 2, 0) := ⟨rfl, rfl, am 433 rfl rfl⟩
set_option maxRecDepth 100000 in
theorem mtw77 : MtP (5, 150, 34, 1, 1) := ⟨rfl, rfl, am 284 rfl rfl⟩
set_option maxRecDepth 100000 in
theorem mtw78 : MtP (5, 153, 0, 0, 6) := ⟨am 292 rfl rfl, mms_abs, mmc_abs⟩
set_option maxRecDepth 100000 in
theorem mtw79 : MtP (5, 158, 37, 1, 1) := ⟨rfl, rfl, am 295 rfl rfl⟩
set_option maxRecDepth 100000 in
theorem mtw80 : MtP (5, 163, 43, 1, 1) := ⟨rfl, rfl, am 449 rfl rfl⟩
set_option maxRecDepth 100000 in
theorem mtw81 : MtP (5, 166, 44, 2, 1) := ⟨rfl, rfl, am 453 rfl rfl⟩
set_option maxRecDepth 100000 in
theorem mtw82 : MtP (5, 169, 18, 2, 1) := ⟨rfl, rfl, am 462 rfl rfl⟩
set_option maxRecDepth 100000 in
theorem mtw83 : MtP (5, 172, 102, 4, 1) := ⟨rfl, rfl, am 470 rfl rfl⟩
set_option maxRecDepth 100000 in
theorem mtw84 : MtP (5, 176, 46, 3, 1) := ⟨rfl, rfl, am 474 rfl rfl⟩
set_option maxRecDepth 100000 in
theorem mtw85 : MtP (5, 179, 47, 3, 1) := ⟨rfl, rfl, am 479 rfl rfl⟩
set_option maxRecDepth 100000 in
theorem mtw86 : MtP (5, 182, 53, 2, 1) := ⟨rfl, rfl, am 321 rfl rfl⟩
set_option maxRecDepth 100000 in
theorem mtw87 : MtP (5, 185, 1, 3, 1) := ⟨rfl, rfl, am 363 rfl rfl⟩
set_option maxRecDepth 100000 in
theorem mtw88 : MtP (5, 189, 9, 2, 1) := ⟨rfl, rfl, am 484 rfl rfl⟩
set_option maxRecDepth 100000 in
theorem mtw89 : MtP (5, 192, 107, 2, 1) := ⟨rfl, rfl, am 492 rfl rfl⟩
set_option maxRecDepth 100000 in
theorem mtw90 : MtP (5, 196, 36, 3, 1) := ⟨rfl, rfl, am 497 rfl rfl⟩
set_option maxRecDepth 100000 in
theorem mtw91 : MtP (5, 199, 57, 1, 1) := ⟨rfl, rfl, am 509 rfl rfl⟩
set_option maxRecDepth 100000 in
theorem mtw92 : MtP (5, 202, 58, 3, 1) := ⟨rfl, rfl, am 521 rfl rfl⟩
set_option maxRecDepth 100000 in
theorem mtw93 : MtP (5, 205, 103, 3, 1) := ⟨rfl, rfl, am 529 rfl rfl⟩
set_option maxRecDepth 100000 in
theorem mtw94 : MtP (5, 208, 11, 4, 1) := ⟨rfl, rfl, am 533 rfl rfl⟩
set_option maxRecDepth 100000 in
theorem mtw95 : MtP (5, 212, 108, 1, 1) := ⟨rfl, rfl, am 564 rfl rfl⟩
set_option maxRecDepth 100000 in
theorem mtw96 : MtP (5, 215, 109, 1, 1) := ⟨rfl, rfl, am 576 rfl rfl⟩
set_option maxRecDepth 100000 in
theorem mtw97 : MtP (5, 218, 16, 2, 1) := ⟨rfl, rfl, am 185 rfl rfl⟩
set_option maxRecDepth 100000 in
theorem mtw98 : MtP (5, 221, 38, 1, 1) := ⟨rfl, rfl, am 303 rfl rfl⟩
set_option maxRecDepth 100000 in
theorem mtw99 : MtP (5, 224, 40, 2, 1) := ⟨rfl, rfl, am 309 rfl rfl⟩
set_option maxRecDepth 100000 in
theorem mtw100 : MtP (5, 227, 55, 1, 1) := ⟨rfl, rfl, am 353 rfl rfl⟩
set_option maxRecDepth 100000 in
theorem mtw101 : MtP (5, 230, 7, 1, 1) := ⟨rfl, rfl, am 390 rfl rfl⟩
set_option maxRecDepth 100000 in
theorem mtw102 : MtP (5, 233, 8, 1, 1) := ⟨rfl, rfl, am 398 rfl rfl⟩
set_option maxRecDepth 100000 in
theorem mtw103 : MtP (5, 236, 110, 2, 0) := ⟨rfl, rfl, am 436 rfl rfl⟩
set_option maxRecDepth 100000 in
theorem mtw104 : MtP (5, 239, 54, 3, 1) := ⟨rfl, rfl, am 496 rfl rfl⟩
set_option maxRecDepth 100000 in
theorem mtw105 : MtP (6, 1, 0, 0, 5) := am 585 rfl rfl
set_option maxRecDepth 100000 in
theorem mtw106 : MtP (6, 77, 112, 3, 0) := ⟨rfl, rfl, am 676 rfl rfl⟩
set_option maxRecDepth 100000 in
theorem mtw107 : MtP (6, 94, 115, 1, 0) := ⟨rfl, rfl, am 692 rfl rfl⟩
set_option maxRecDepth 100000 in
theorem mtw108 : MtP (6, 98, 116, 3, 1) := ⟨rfl, rfl, am 699 rfl rfl⟩
set_option maxRecDepth 100000 in
theorem mtw109 : MtP (6, 102, 117, 1, 1) := ⟨rfl, rfl, am 688 rfl rfl⟩
set_option maxRecDepth 100000 in
theorem mtw110 : MtP (6, 108, 119, 1, 0) := ⟨rfl, rfl, am 707 rfl rfl⟩
set_option maxRecDepth 100000 in
theorem mtw111 : MtP (6, 114, 120, 3, 1) := ⟨rfl, rfl, am 715 rfl rfl⟩
set_option maxRecDepth 100000 in
theorem mtw112 : MtP (6, 117, 121, 2, 0) := ⟨rfl, rfl, am 723 rfl rfl⟩
set_option maxRecDepth 100000 in
theorem mtw113 : MtP (6, 120, 124, 4, 1) := ⟨rfl, rfl, am 727 rfl rfl⟩
set_option maxRecDepth 100000 in
theorem mtw114 : MtP (6, 128, 131, 4, 1) := ⟨rfl, rfl, am 761 rfl rfl⟩
set_option maxRecDepth 100000 in
theorem mtw115 : MtP (6, 131, 134, 1, 0) := ⟨rfl, rfl, am 769 rfl rfl⟩
set_option maxRecDepth 100000 in
theorem mtw116 : MtP (6, 134, 132, 4, 1) := ⟨rfl, rfl, am 772 rfl rfl⟩
set_option maxRecDepth 100000 in
theorem mtw117 : MtP (6, 138, 130, 3, 1) := ⟨rfl, rfl, am 757 rfl rfl⟩
set_option maxRecDepth 100000 in
theorem mtw118 : MtP (6, 142, 133, 5, 1) := ⟨rfl, rfl, am 765 rfl rfl⟩
set_option maxRecDepth 100000 in
theorem mtw119 : MtP (6, 146, 135, 2, 1) := ⟨rfl, rfl, am 753 rfl rfl⟩
set_option maxRecDepth 100000 in
theorem mtw120 : MtP (6, 149, 137, 4, 1) := ⟨rfl, rfl, am 796 rfl rfl⟩
set_option maxRecDepth 100000 in
theorem mtw121 : MtP (6, 152, 139, 1, 0) := ⟨rfl, rfl, am 819 rfl rfl⟩
set_option maxRecDepth 100000 in
theorem mtw122 : MtP (6, 155, 140, 2, 0) := ⟨rfl, rfl, am 816 rfl rfl⟩
set_option maxRecDepth 100000 in
theorem mtw123 : MtP (6, 158, 138, 2, 1) := ⟨rfl, rfl, am 792 rfl rfl⟩
set_option maxRecDepth 100000 in
theorem mtw124 : MtP (6, 161, 143, 5, 1) := ⟨rfl, rfl, am 780 rfl rfl⟩
set_option maxRecDepth 100000 in
theorem mtw125 : MtP (6, 165, 142, 3, 1) := ⟨rfl, rfl, am 788 rfl rfl⟩
set_option maxRecDepth 100000 in
theorem mtw126 : MtP (6, 172, 146, 4, 1) := ⟨rfl, rfl, am 806 rfl rfl⟩
set_option maxRecDepth 100000 in
theorem mtw127 : MtP (6, 184, 141, 2, 1) := ⟨rfl, rfl, am 829 rfl rfl⟩
set_option maxRecDepth 100000 in
theorem mtw128 : MtP (6, 189, 151, 3, 1) := ⟨rfl, rfl, am 838 rfl rfl⟩
set_option maxRecDepth 100000 in
theorem mtw129 : MtP (6, 192, 152, 3, 1) := ⟨rfl, rfl, am 842 rfl rfl⟩
set_option maxRecDepth 100000 in
theorem mtw130 : MtP (6, 198, 155, 4, 1) := ⟨rfl, rfl, am 866 rfl rfl⟩
set_option maxRecDepth 100000 in
theorem mtw131 : MtP (6, 201, 153, 3, 1) := ⟨rfl, rfl, am 858 rfl rfl⟩
set_option maxRecDepth 100000 in
theorem mtw132 : MtP (6, 205, 154, 5, 1) := ⟨rfl, rfl, am 862 rfl rfl⟩
set_option maxRecDepth 100000 in
theorem mtw133 : MtP (6, 209, 158, 5, 1) := ⟨rfl, rfl, am 878 rfl rfl⟩
set_option maxRecDepth 100000 in
theorem mtw134 : MtP (6, 212, 159, 4, 1) := ⟨rfl, rfl, am 850 rfl rfl⟩
set_option maxRecDepth 100000 in
theorem mtw135 : MtP (6, 215, 156, 4, 1) := ⟨rfl, rfl, am 854 rfl rfl⟩
set_option maxRecDepth 100000 in
theorem mtw136 : MtP (6, 218, 157, 4, 1) := ⟨rfl, rfl, am 874 rfl rfl⟩
set_option maxRecDepth 100000 in
theorem mtw137 : MtP (6, 221, 162, 2, 1) := ⟨rfl, rfl, am 886 rfl rfl⟩
set_option maxRecDepth 100000 in
theorem mtw138 : MtP (6, 224, 163, 2, 1) := ⟨rfl, rfl, am 890 rfl rfl⟩
set_option maxRecDepth 100000 in
theorem mtw139 : MtP (6, 228, 166, 2, 0) := ⟨rfl, rfl, am 902 rfl rfl⟩
set_option maxRecDepth 100000 in
theorem mtw140 : MtP (6, 231, 165, 2, 1) := ⟨rfl, rfl, am 898 rfl rfl⟩
set_option maxRecDepth 100000 in
theorem mtw141 : MtP (6, 234, 168, 4, 1) := ⟨rfl, rfl, am 909 rfl rfl⟩
set_option maxRecDepth 100000 in
theorem mtw142 : MtP (6, 237, 171, 2, 1) := ⟨rfl, rfl, am 921 rfl rfl⟩
set_option maxRecDepth 100000 in
theorem mtw143 : MtP (6, 240, 172, 1, 0) := ⟨rfl, rfl, am 925 rfl rfl⟩
set_option maxRecDepth 100000 in
theorem mtw144 : MtP (6, 258, 175, 6, 1) := ⟨rfl, rfl, am 940 rfl rfl⟩
set_option maxRecDepth 100000 in
theorem mtw145 : MtP (6, 262, 176, 4, 1) := ⟨rfl, rfl, am 936 rfl rfl⟩
set_option maxRecDepth 100000 in
theorem mtw146 : MtP (6, 265, 180, 1, 1) := ⟨rfl, rfl, am 956 rfl rfl⟩
set_option maxRecDepth 100000 in
theorem mtw147 : MtP (7, 9, 66, 1, 2) := ⟨rfl, rfl, am 12 rfl rfl⟩
set_option maxRecDepth 100000 in
theorem mtw148 : MtP (7, 12, 111, 1, 2) := ⟨rfl, rfl, am 582 rfl rfl⟩
set_option maxRecDepth 100000 in
theorem mtw149 : MtP (7, 15, 67, 3, 1) := ⟨rfl, rfl, am 135 rfl rfl⟩
set_option maxRecDepth 100000 in
theorem mtw150 : MtP (7, 19, 113, 3, 1) := ⟨rfl, rfl, am 671 rfl rfl⟩
set_option maxRecDepth 100000 in
theorem mtw151 : MtP (7, 20, 68, 1, 1) := ⟨rfl, rfl, am 143 rfl rfl⟩
set_option maxRecDepth 100000 in
theorem mtw152 : MtP (7, 24, 114, 1, 1) := ⟨rfl, rfl, am 680 rfl rfl⟩
set_option maxRecDepth 100000 in
theorem mtw153 : MtP (7, 25, 69, 1, 1) := ⟨rfl, rfl, am 147 rfl rfl⟩
set_option maxRecDepth 100000 in
theorem mtw154 : MtP (7, 28, 118, 1, 1) := ⟨rfl, rfl, am 684 rfl rfl⟩
set_option maxRecDepth 100000 in
theorem mtw155 : MtP (7, 29, 70, 2, 1) := ⟨rfl, rfl, am 166 rfl rfl⟩
set_option maxRecDepth 100000 in
theorem mtw156 : MtP (7, 33, 122, 2, 1) := ⟨rfl, rfl, am 703 rfl rfl⟩
set_option maxRecDepth 100000 in
theorem mtw157 : MtP (7, 34, 71, 4, 1) := ⟨rfl, rfl, am 177 rfl rfl⟩
set_option maxRecDepth 100000 in
theorem mtw158 : MtP (7, 38, 123, 4, 1) := ⟨rfl, rfl, am 711 rfl rfl⟩
set_option maxRecDepth 100000 in
theorem mtw159 : MtP (7, 39, 72, 5, 1) := ⟨rfl, rfl, am 189 rfl rfl⟩
set_option maxRecDepth 100000 in
theorem mtw160 : MtP (7, 43, 125, 5, 1) := ⟨rfl, rfl, am 719 rfl rfl⟩
set_option maxRecDepth 100000 in
theorem mtw161 : MtP (7, 44, 73, 5, 1) := ⟨rfl, rfl, am 200 rfl rfl⟩
set_option maxRecDepth 100000 in
theorem mtw162 : MtP (7, 47, 126, 5, 1) := ⟨rfl, rfl, am 731 rfl rfl⟩
set_option maxRecDepth 100000 in
theorem mtw163 : MtP (7, 48, 74, 3, 1) := ⟨rfl, rfl, am 208 rfl rfl⟩
set_option maxRecDepth 100000 in
theorem mtw164 : MtP (7, 52, 127, 3, 1) := ⟨rfl, rfl, am 735 rfl rfl⟩
set_option maxRecDepth 100000 in
theorem mtw165 : MtP (7, 53, 75, 3, 1) := ⟨rfl, rfl, am 216 rfl rfl⟩
set_option maxRecDepth 100000 in
theorem mtw166 : MtP (7, 56, 128, 3, 1) := ⟨rfl, rfl, am 739 rfl rfl⟩
set_option maxRecDepth 100000 in
theorem mtw167 : MtP (7, 57, 76, 4, 1) := ⟨rfl, rfl, am 228 rfl rfl⟩
set_option maxRecDepth 100000 in
theorem mtw168 : MtP (7, 60, 129, 4, 1) := ⟨rfl, rfl, am 744 rfl rfl⟩
set_option maxRecDepth 100000 in
theorem mtw169 : MtP (7, 61, 77, 2, 1) := ⟨rfl, rfl, am 241 rfl rfl⟩
set_option maxRecDepth 100000 in
theorem mtw170 : MtP (7, 64, 136, 2, 1) := ⟨rfl, rfl, am 749 rfl rfl⟩
set_option maxRecDepth 100000 in
theorem mtw171 : MtP (7, 65, 78, 3, 1) := ⟨rfl, rfl, am 277 rfl rfl⟩
set_option maxRecDepth 100000 in
theorem mtw172 : MtP (7, 68, 164, 3, 1) := ⟨rfl, rfl, am 882 rfl rfl⟩
set_option maxRecDepth 100000 in
theorem mtw173 : MtP (7, 69, 79, 4, 1) := ⟨rfl, rfl, am 402 rfl rfl⟩
set_option maxRecDepth 100000 in
theorem mtw174 : MtP (7, 72, 144, 4, 1) := ⟨rfl, rfl, am 776 rfl rfl⟩
set_option maxRecDepth 100000 in
theorem mtw175 : MtP (7, 73, 80, 3, 1) := ⟨rfl, rfl, am 407 rfl rfl⟩
set_option maxRecDepth 100000 in
theorem mtw176 : MtP (7, 76, 145, 3, 1) := ⟨rfl, rfl, am 784 rfl rfl⟩
set_option maxRecDepth 100000 in
theorem mtw177 : MtP (7, 77, 81, 4, 1) := ⟨rfl, rfl, am 412 rfl rfl⟩
set_option maxRecDepth 100000 in
theorem mtw178 : MtP (7, 80, 147, 4, 1) := ⟨rfl, rfl, am 800 rfl rfl⟩
set_option maxRecDepth 100000 in
theorem mtw179 : MtP (7, 81, 82, 3, 1) := ⟨rfl, rfl, am 429 rfl rfl⟩
set_option maxRecDepth 100000 in
theorem mtw180 : MtP (7, 84, 148, 3, 1) := ⟨rfl, rfl, am 810 rfl rfl⟩
set_option maxRecDepth 100000 in
theorem mtw181 : MtP (7, 85, 83, 3, 1) := ⟨rfl, rfl, am 437 rfl rfl⟩
set_option maxRecDepth 100000 in
theorem mtw182 : MtP (7, 89, 149, 3, 1) := ⟨rfl, rfl, am 822 rfl rfl⟩
set_option maxRecDepth 100000 in
theorem mtw183 : MtP (7, 90, 84, 3, 1) := ⟨rfl, rfl, am 445 rfl rfl⟩
set_option maxRecDepth 100000 in
theorem mtw184 : MtP (7, 93, 150, 3, 1) := ⟨rfl, rfl, am 834 rfl rfl⟩
set_option maxRecDepth 100000 in
theorem mtw185 : MtP (7, 94, 85, 4, 1) := ⟨rfl, rfl, am 466 rfl rfl⟩
set_option maxRecDepth 100000 in
theorem mtw186 : MtP (7, 97, 160, 4, 1) := ⟨rfl, rfl, am 846 rfl rfl⟩
set_option maxRecDepth 100000 in
theorem mtw187 : MtP (7, 98, 86, 4, 1) := ⟨rfl, rfl, am 475 rfl rfl⟩
set_option maxRecDepth 100000 in
theorem mtw188 : MtP (7, 101, 161, 4, 1) := ⟨rfl, rfl, am 870 rfl rfl⟩
set_option maxRecDepth 100000 in
theorem mtw189 : MtP (7, 102, 87, 3, 1) := ⟨rfl, rfl, am 480 rfl rfl⟩
set_option maxRecDepth 100000 in
theorem mtw190 : MtP (7, 105, 167, 3, 1) := ⟨rfl, rfl, am 894 rfl rfl⟩
set_option maxRecDepth 100000 in
theorem mtw191 : MtP (7, 106, 88, 2, 1) := ⟨rfl, rfl, am 488 rfl rfl⟩
set_option maxRecDepth 100000 in
theorem mtw192 : MtP (7, 109, 169, 2, 1) := ⟨rfl, rfl, am 905 rfl rfl⟩
set_option maxRecDepth 100000 in
theorem mtw193 : MtP (7, 110, 89, 4, 1) := ⟨rfl, rfl, am 501 rfl rfl⟩
set_option maxRecDepth 100000 in
theorem mtw194 : MtP (7, 113, 170, 4, 1) := ⟨rfl, rfl, am 913 rfl rfl⟩
set_option maxRecDepth 100000 in
theorem mtw195 : MtP (7, 114, 90, 2, 1) := ⟨rfl, rfl, am 505 rfl rfl⟩
set_option maxRecDepth 100000 in
theorem mtw196 : MtP (7, 117, 173, 2, 1) := ⟨rfl, rfl, am 917 rfl rfl⟩
set_option maxRecDepth 100000 in
theorem mtw197 : MtP (7, 118, 91, 4, 1) := ⟨rfl, rfl, am 517 rfl rfl⟩
set_option maxRecDepth 100000 in
theorem mtw198 : MtP (7, 121, 174, 4, 1) := ⟨rfl, rfl, am 928 rfl rfl⟩
set_option maxRecDepth 100000 in
theorem mtw199 : MtP (7, 122, 92, 3, 1) := ⟨rfl, rfl, am 525 rfl rfl⟩
set_option maxRecDepth 100000 in
theorem mtw200 : MtP (7, 125, 177, 3, 1) := ⟨rfl, rfl, am 932 rfl rfl⟩
set_option maxRecDepth 100000 in
theorem mtw201 : MtP (7, 126, 93, 3, 1) := ⟨rfl, rfl, am 552 rfl rfl⟩
set_option maxRecDepth 100000 in
theorem mtw202 : MtP (7, 129, 178, 3, 1) := ⟨rfl, rfl, am 944 rfl rfl⟩
set_option maxRecDepth 100000 in
theorem mtw203 : MtP (7, 130, 94, 3, 1) := ⟨rfl, rfl, am 556 rfl rfl⟩
set_option maxRecDepth 100000 in
theorem mtw204 : MtP (7, 133, 179, 3, 1) := ⟨rfl, rfl, am 948 rfl rfl⟩
set_option maxRecDepth 100000 in
theorem mtw205 : MtP (7, 134, 95, 2, 1) := ⟨rfl, rfl, am 560 rfl rfl⟩
set_option maxRecDepth 100000 in
theorem mtw206 : MtP (7, 137, 181, 2, 1) := ⟨rfl, rfl, am 952 rfl rfl⟩
set_option maxRecDepth 100000 in
theorem mtw207 : MtP (7, 138, 96, 2, 1) := ⟨rfl, rfl, am 568 rfl rfl⟩
set_option maxRecDepth 100000 in
theorem mtw208 : MtP (7, 141, 182, 2, 1) := ⟨rfl, rfl, am 960 rfl rfl⟩
set_option maxRecDepth 100000 in
theorem mtw209 : MtP (7, 142, 97, 2, 1) := ⟨rfl, rfl, am 572 rfl rfl⟩
set_option maxRecDepth 100000 in
theorem mtw210 : MtP (7, 145, 183, 2, 1) := ⟨rfl, rfl, am 964 rfl rfl⟩
set_option maxRecDepth 100000 in
theorem mt_all : ∀ q ∈ mtL, MtP q :=
  (List.forall_mem_cons.mpr ⟨mtw0, (List.forall_mem_cons.mpr ⟨mtw1, (List.forall_mem_cons.mpr ⟨mtw2, (List.forall_mem_cons.mpr ⟨mtw3, (List.forall_mem_cons.mpr ⟨mtw4, (List.forall_mem_cons.mpr ⟨mtw5, (List.forall_mem_cons.mpr ⟨mtw6, (List.forall_mem_cons.mpr ⟨mtw7, (List.forall_mem_cons.mpr ⟨mtw8, (List.forall_mem_cons.mpr ⟨mtw9, (List.forall_mem_cons.mpr ⟨mtw10, (List.forall_mem_cons.mpr ⟨mtw11, (List.forall_mem_cons.mpr ⟨mtw12, (List.forall_mem_cons.mpr ⟨mtw13, (List.forall_mem_cons.mpr ⟨mtw14, (List.forall_mem_cons.mpr ⟨mtw15, (List.forall_mem_cons.mpr ⟨mtw16, (List.forall_mem_cons.mpr ⟨mtw17, (List.forall_mem_cons.mpr ⟨mtw18, (List.forall_mem_cons.mpr ⟨mtw19, (List.forall_mem_cons.mpr ⟨mtw20, (List.forall_mem_cons.mpr ⟨mtw21, (List.forall_mem_cons.mpr ⟨mtw22, (List.forall_mem_cons.mpr ⟨mtw23, (List.forall_mem_cons.mpr ⟨mtw24, (List.forall_mem_cons.mpr ⟨mtw25, (List.forall_mem_cons.mpr ⟨mtw26, (List.forall_mem_cons.mpr ⟨mtw27, (List.forall_mem_cons.mpr ⟨mtw28, (List.forall_mem_cons.mpr ⟨mtw29, (List.forall_mem_cons.mpr ⟨mtw30, (List.forall_mem_cons.mpr ⟨mtw31, (List.forall_mem_cons.mpr ⟨mtw32, (List.forall_mem_cons.mpr ⟨mtw33, (List.forall_mem_cons.mpr ⟨mtw34, (List.forall_mem_cons.mpr ⟨mtw35, (List.forall_mem_cons.mpr ⟨mtw36, (List.forall_mem_cons.mpr ⟨mtw37, (List.forall_mem_cons.mpr ⟨mtw38, (List.forall_mem_cons.mpr ⟨mtw39, (List.forall_mem_cons.mpr ⟨mtw40, (List.forall_mem_cons.mpr ⟨mtw41, (List.forall_mem_cons.mpr ⟨mtw42, (List.forall_mem_cons.mpr ⟨mtw43, (List.forall_mem_cons.mpr ⟨mtw44, (List.forall_mem_cons.mpr ⟨mtw45, (List.forall_mem_cons.mpr ⟨mtw46, (List.forall_mem_cons.mpr ⟨mtw47, (List.forall_mem_cons.mpr ⟨mtw48, (List.forall_mem_cons.mpr ⟨mtw49, (List.forall_mem_cons.mpr ⟨mtw50, (List.forall_mem_cons.mpr ⟨mtw51, (List.forall_mem_cons.mpr ⟨mtw52, (List.forall_mem_cons.mpr ⟨mtw53, (List.forall_mem_cons.mpr ⟨mtw54, (List.forall_mem_cons.mpr ⟨mtw55, (List.forall_mem_cons.mpr ⟨mtw56, (List.forall_mem_cons.mpr ⟨mtw57, (List.forall_mem_cons.mpr ⟨mtw58, (List.forall_mem_cons.mpr ⟨mtw59, (List.forall_mem_cons.mpr ⟨mtw60, (List.forall_mem_cons.mpr ⟨mtw61, (List.forall_mem_cons.mpr ⟨mtw62, (List.forall_mem_cons.mpr ⟨mtw63, (List.forall_mem_cons.mpr ⟨mtw64, (List.forall_mem_cons.mpr ⟨mtw65, (List.forall_mem_cons.mpr ⟨mtw66, (List.forall_mem_cons.mpr ⟨mtw67, (List.forall_mem_cons.mpr ⟨mtw68, (List.forall_mem_cons.mpr ⟨mtw69, (List.forall_mem_cons.mpr ⟨mtw70, (List.forall_mem_cons.mpr ⟨mtw71, (List.forall_mem_cons.mpr ⟨mtw72, (List.forall_mem_cons.mpr ⟨mtw73, (List.forall_mem_cons.mpr ⟨mtw74, (List.forall_mem_cons.mpr ⟨mtw75, (List.forall_mem_cons.mpr ⟨mtw76, (List.forall_mem_cons.mpr ⟨mtw77, (List.forall_mem_cons.mpr ⟨mtw78, (List.forall_mem_cons.mpr ⟨mtw79, (List.forall_mem_cons.mpr ⟨mtw80, (List.forall_mem_cons.mpr ⟨mtw81, (List.forall_mem_cons.mpr ⟨mtw82, (List.forall_mem_cons.mpr ⟨mtw83, (List.forall_mem_cons.mpr ⟨mtw84, (List.forall_mem_cons.mpr ⟨mtw85, (List.forall_mem_cons.mpr ⟨mtw86, (List.forall_mem_cons.mpr ⟨mtw87, (List.forall_mem_cons.mpr ⟨mtw88, (List.forall_mem_cons.mpr ⟨mtw89, (List.forall_mem_cons.mpr ⟨mtw90, (List.forall_mem_cons.mpr ⟨mtw91, (List.forall_mem_cons.mpr ⟨mtw92, (List.forall_mem_cons.mpr ⟨mtw93, (List.forall_mem_cons.mpr ⟨mtw94, (List.forall_mem_cons.mpr ⟨mtw95, (List.forall_mem_cons.mpr ⟨mtw96, (List.forall_mem_cons.mpr ⟨mtw97, (List.forall_mem_cons.mpr ⟨mtw98, (List.forall_mem_cons.mpr ⟨mtw99, (List.forall_mem_cons.mpr ⟨mtw100, (List.forall_mem_cons.mpr ⟨mtw101, (List.forall_mem_cons.mpr ⟨mtw102, (List.forall_mem_cons.mpr ⟨mtw103, (List.forall_mem_cons.mpr ⟨mtw104, (List.forall_mem_cons.mpr ⟨mtw105, (List.forall_mem_cons.mpr ⟨mtw106, (List.forall_mem_cons.mpr ⟨mtw107, (List.forall_mem_cons.mpr ⟨mtw108, (List.forall_mem_cons.mpr ⟨mtw109, (List.forall_mem_cons.mpr ⟨mtw110, (List.forall_mem_cons.mpr ⟨mtw111, (List.forall_mem_cons.mpr ⟨mtw112, (List.forall_mem_cons.mpr ⟨mtw113, (List.forall_mem_cons.mpr ⟨mtw114, (List.forall_mem_cons.mpr ⟨mtw115, (List.forall_mem_cons.mpr ⟨mtw116, (List.forall_mem_cons.mpr ⟨mtw117, (List.forall_mem_cons.mpr ⟨mtw118, (List.forall_mem_cons.mpr ⟨mtw119, (List.forall_mem_cons.mpr ⟨mtw120, (List.forall_mem_cons.mpr ⟨mtw121, (List.forall_mem_cons.mpr ⟨mtw122, (List.forall_mem_cons.mpr ⟨mtw123, (List.forall_mem_cons.mpr ⟨mtw124, (List.forall_mem_cons.mpr ⟨mtw125, (List.forall_mem_cons.mpr ⟨mtw126, (List.forall_mem_cons.mpr ⟨mtw127, (List.forall_mem_cons.mpr ⟨mtw128, (List.forall_mem_cons.mpr ⟨mtw129, (List.forall_mem_cons.mpr ⟨mtw130, (List.forall_mem_cons.mpr ⟨mtw131, (List.forall_mem_cons.mpr ⟨mtw132, (List.forall_mem_cons.mpr ⟨mtw133, (List.forall_mem_cons.mpr ⟨mtw134, (List.forall_mem_cons.mpr ⟨mtw135, (List.forall_mem_cons.mpr ⟨mtw136, (List.forall_mem_cons.mpr ⟨mtw137, (List.forall_mem_cons.mpr ⟨mtw138, (List.forall_mem_cons.mpr ⟨mtw139, (List.forall_mem_cons.mpr ⟨mtw140, (List.forall_mem_cons.mpr ⟨mtw141, (List.forall_mem_cons.mpr ⟨mtw142, (List.forall_mem_cons.mpr ⟨mtw143, (List.forall_mem_cons.mpr ⟨mtw144, (List.forall_mem_cons.mpr ⟨mtw145, (List.forall_mem_cons.mpr ⟨mtw146, (List.forall_mem_cons.mpr ⟨mtw147, (List.forall_mem_cons.mpr ⟨mtw148, (List.forall_mem_cons.mpr ⟨mtw149, (List.forall_mem_cons.mpr ⟨mtw150, (List.forall_mem_cons.mpr ⟨mtw151, (List.forall_mem_cons.mpr ⟨mtw152, (List.forall_mem_cons.mpr ⟨mtw153, (List.forall_mem_cons.mpr ⟨mtw154, (List.forall_mem_cons.mpr ⟨mtw155, (List.forall_mem_cons.mpr ⟨mtw156, (List.forall_mem_cons.mpr ⟨mtw157, (List.forall_mem_cons.mpr ⟨mtw158, (List.forall_mem_cons.mpr ⟨mtw159, (List.forall_mem_cons.mpr ⟨mtw160, (List.forall_mem_cons.mpr ⟨mtw161, (List.forall_mem_cons.mpr ⟨mtw162, (List.forall_mem_cons.mpr ⟨mtw163, (List.forall_mem_cons.mpr ⟨mtw164, (List.forall_mem_cons.mpr ⟨mtw165, (List.forall_mem_cons.mpr ⟨mtw166, (List.forall_mem_cons.mpr ⟨mtw167, (List.forall_mem_cons.mpr ⟨mtw168, (List.forall_mem_cons.mpr ⟨mtw169, (List.forall_mem_cons.mpr ⟨mtw170, (List.forall_mem_cons.mpr ⟨mtw171, (List.forall_mem_cons.mpr ⟨mtw172, (List.forall_mem_cons.mpr ⟨mtw173, (List.forall_mem_cons.mpr ⟨mtw174, (List.forall_mem_cons.mpr ⟨mtw175, (List.forall_mem_cons.mpr ⟨mtw176, (List.forall_mem_cons.mpr ⟨mtw177, (List.forall_mem_cons.mpr ⟨mtw178, (List.forall_mem_cons.mpr ⟨mtw179, (List.forall_mem_cons.mpr ⟨mtw180, (List.forall_mem_cons.mpr ⟨mtw181, (List.forall_mem_cons.mpr ⟨mtw182, (List.forall_mem_cons.mpr ⟨mtw183, (List.forall_mem_cons.mpr ⟨mtw184, (List.forall_mem_cons.mpr ⟨mtw185, (List.forall_mem_cons.mpr ⟨mtw186, (List.forall_mem_cons.mpr ⟨mtw187, (List.forall_mem_cons.mpr ⟨mtw188, (List.forall_mem_cons.mpr ⟨mtw189, (List.forall_mem_cons.mpr ⟨mtw190, (List.forall_mem_cons.mpr ⟨mtw191, (List.forall_mem_cons.mpr ⟨mtw192, (List.forall_mem_cons.mpr ⟨mtw193, (List.forall_mem_cons.mpr ⟨mtw194, (List.forall_mem_cons.mpr ⟨mtw195, (List.forall_mem_cons.mpr ⟨mtw196, (List.forall_mem_cons.mpr ⟨mtw197, (List.forall_mem_cons.mpr ⟨mtw198, (List.forall_mem_cons.mpr ⟨mtw199, (List.forall_mem_cons.mpr ⟨mtw200, (List.forall_mem_cons.mpr ⟨mtw201, (List.forall_mem_cons.mpr ⟨mtw202, (List.forall_mem_cons.mpr ⟨mtw203, (List.forall_mem_cons.mpr ⟨mtw204, (List.forall_mem_cons.mpr ⟨mtw205, (List.forall_mem_cons.mpr ⟨mtw206, (List.forall_mem_cons.mpr ⟨mtw207, (List.forall_mem_cons.mpr ⟨mtw208, (List.forall_mem_cons.mpr ⟨mtw209, (List.forall_mem_cons.mpr ⟨mtw210, (fun _ h => absurd h List.not_mem_nil)⟩)⟩)⟩)⟩)⟩)⟩)⟩)⟩)⟩)⟩)⟩)⟩)⟩)⟩)⟩)⟩)⟩)⟩)⟩)⟩)⟩)⟩)⟩)⟩)⟩)⟩)⟩)⟩)⟩)⟩)⟩)⟩)⟩)⟩)⟩)⟩)⟩)⟩)⟩)⟩)⟩)⟩)⟩)⟩)⟩)⟩)⟩)⟩)⟩)⟩)⟩)⟩)⟩)⟩)⟩)⟩)⟩)⟩)⟩)⟩)⟩)⟩)⟩)⟩)⟩)⟩)⟩)⟩)⟩)⟩)⟩)⟩)⟩)⟩)⟩)⟩)⟩)⟩)⟩)⟩)⟩)⟩)⟩)⟩)⟩)⟩)⟩)⟩)⟩)⟩)⟩)⟩)⟩)⟩)⟩)⟩)⟩)⟩)⟩)⟩)⟩)⟩)⟩)⟩)⟩)⟩)⟩)⟩)⟩)⟩)⟩)⟩)⟩)⟩)⟩)⟩)⟩)⟩)⟩)⟩)⟩)⟩)⟩)⟩)⟩)⟩)⟩)⟩)⟩)⟩)⟩)⟩)⟩)⟩)⟩)⟩)⟩)⟩)⟩)⟩)⟩)⟩)⟩)⟩)⟩)⟩)⟩)⟩)⟩)⟩)⟩)⟩)⟩)⟩)⟩)⟩)⟩)⟩)⟩)⟩)⟩)⟩)⟩)⟩)⟩)⟩)⟩)⟩)⟩)⟩)⟩)⟩)⟩)⟩)⟩)⟩)⟩)⟩)⟩)⟩)⟩)⟩)⟩)⟩)⟩)⟩)⟩)⟩)⟩)⟩)⟩)⟩)⟩)⟩)⟩)⟩)⟩)⟩)⟩)⟩)⟩)⟩)⟩)⟩)⟩)⟩)⟩)⟩)⟩)⟩)⟩)
