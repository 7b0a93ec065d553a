/-! rows: an instruction, a row -/
theorem ax_toInt {n : Int} (h : ax_in n) : (Int32.ofInt n).toInt = n := by
  unfold ax_in at h
  exact Int32.toInt_ofInt_of_le (by omega) (by omega)
theorem ax_leI {x y : Int} (hx : ax_in x) (hy : ax_in y) : Int32.ofInt x ≤ Int32.ofInt y ↔ x ≤ y := by
  rw [Int32.le_iff_toInt_le, ax_toInt hx, ax_toInt hy]
theorem ax_ltI {x y : Int} (hx : ax_in x) (hy : ax_in y) : Int32.ofInt x < Int32.ofInt y ↔ x < y := by
  rw [Int32.lt_iff_toInt_lt, ax_toInt hx, ax_toInt hy]
theorem ax_eqI {x y : Int} (hx : ax_in x) (hy : ax_in y) : Int32.ofInt x = Int32.ofInt y ↔ x = y := by
  constructor
  · intro h
    have := congrArg Int32.toInt h
    rwa [ax_toInt hx, ax_toInt hy] at this
  · intro h; rw [h]
theorem ax_okI {n : Int} (h : ax_in n) : ax_ok (vI n) := h
theorem ax_okR {r : Option Nat} : ax_ok (vQ r) := trivial
theorem ax_okL {x : Int64} : ax_ok (vL x) := trivial
theorem ax_okD {x : UInt64} : ax_ok (vD x) := trivial
theorem ax_in0 : ax_in 0 := ⟨by decide, by decide⟩
theorem ax_eq0 {x : Int} (hx : ax_in x) : Int32.ofInt x = 0 ↔ x = 0 := by
  have h := ax_eqI hx ax_in0
  exact h
theorem ax_inOf (x : Int32) : ax_in x.toInt := by
  have h1 := x.le_toInt
  have h2 := x.toInt_lt
  unfold ax_in
  omega
theorem ax_ofTo (x : Int32) : Int32.ofInt x.toInt = x := Int32.ofInt_toInt x
def wr (z : Int) : Int := (z + 2147483648) % 4294967296 - 2147483648
theorem wr_in (z : Int) : ax_in (wr z) := by
  unfold ax_in wr
  omega
theorem wr_id {z : Int} (h : ax_in z) : wr z = z := by
  unfold ax_in at h
  unfold wr
  omega
theorem ax_wr (z : Int) : Int32.ofInt (wr z) = Int32.ofInt z := by
  apply Int32.toInt_inj.mp
  rw [Int32.toInt_ofInt, Int32.toInt_ofInt]
  unfold wr
  rw [Int.bmod_def, Int.bmod_def]
  have e : ((2 ^ 32 : Nat) : Int) = 4294967296 := by decide
  simp only [Int32.size] at *
  omega
section AXR
variable {G : ax_G} {mt : ax_T} {d pc : Nat} {ls : List (Option ax_V)} {st : List ax_V} {M M' : ax_M} {o : Option ax_V ⊕ String}
theorem x_iload {i : Nat} {n : Int} (hd : decode mt.2.1 pc = .ok (.iload i, 2)) (hi : ls[i]? = some (some (vI n))) (k : ax_Ex G mt d (pc + 2) ls (vI n :: st) M o M') : ax_Ex G mt d pc ls st M o M' :=
  ax_pure (fun hs hl _ => ⟨ax_oS_cons (ax_oL_get hl hi) hs, hl⟩) (fun C _ _ _ hL _ _ _ k => lv_iload C.1 C.2.1 hd (ax_ld hL hi) (k _ hL)) k
theorem x_iload_n {i : Fin 4} {n : Int} (hd : decode mt.2.1 pc = .ok (.iload_n i, 1)) (hi : ls[(i : Nat)]? = some (some (vI n))) (k : ax_Ex G mt d (pc + 1) ls (vI n :: st) M o M') : ax_Ex G mt d pc ls st M o M' :=
  ax_pure (fun hs hl _ => ⟨ax_oS_cons (ax_oL_get hl hi) hs, hl⟩) (fun C _ _ _ hL _ _ _ k => lv_iload_n C.1 C.2.1 hd rfl (ax_ld hL hi) (k _ hL)) k
theorem x_aload {i : Nat} {n : Nat} (hd : decode mt.2.1 pc = .ok (.aload i, 2)) (hi : ls[i]? = some (some (vR n))) (k : ax_Ex G mt d (pc + 2) ls (vR n :: st) M o M') : ax_Ex G mt d pc ls st M o M' :=
  ax_pure (fun hs hl _ => ⟨ax_oS_cons (ax_oL_get hl hi) hs, hl⟩) (fun C _ _ _ hL _ _ _ k => lv_aload C.1 C.2.1 hd (ax_ld hL hi) (k _ hL)) k
theorem x_aload_n {i : Fin 4} {n : Nat} (hd : decode mt.2.1 pc = .ok (.aload_n i, 1)) (hi : ls[(i : Nat)]? = some (some (vR n))) (k : ax_Ex G mt d (pc + 1) ls (vR n :: st) M o M') : ax_Ex G mt d pc ls st M o M' :=
  ax_pure (fun hs hl _ => ⟨ax_oS_cons (ax_oL_get hl hi) hs, hl⟩) (fun C _ _ _ hL _ _ _ k => lv_aload_n C.1 C.2.1 hd rfl (ax_ld hL hi) (k _ hL)) k
theorem x_lload {i : Nat} {n : Int64} (hd : decode mt.2.1 pc = .ok (.lload i, 2)) (hi : ls[i]? = some (some (vL n))) (k : ax_Ex G mt d (pc + 2) ls (vL n :: st) M o M') : ax_Ex G mt d pc ls st M o M' :=
  ax_pure (fun hs hl _ => ⟨ax_oS_cons (ax_oL_get hl hi) hs, hl⟩) (fun C _ _ _ hL _ _ _ k => lv_lload C.1 C.2.1 hd (ax_ld hL hi) (k _ hL)) k
theorem x_lload_n {i : Fin 4} {n : Int64} (hd : decode mt.2.1 pc = .ok (.lload_n i, 1)) (hi : ls[(i : Nat)]? = some (some (vL n))) (k : ax_Ex G mt d (pc + 1) ls (vL n :: st) M o M') : ax_Ex G mt d pc ls st M o M' :=
  ax_pure (fun hs hl _ => ⟨ax_oS_cons (ax_oL_get hl hi) hs, hl⟩) (fun C _ _ _ hL _ _ _ k => lv_lload_n C.1 C.2.1 hd rfl (ax_ld hL hi) (k _ hL)) k
theorem x_dload {i : Nat} {n : UInt64} (hd : decode mt.2.1 pc = .ok (.dload i, 2)) (hi : ls[i]? = some (some (vD n))) (k : ax_Ex G mt d (pc + 2) ls (vD n :: st) M o M') : ax_Ex G mt d pc ls st M o M' :=
  ax_pure (fun hs hl _ => ⟨ax_oS_cons (ax_oL_get hl hi) hs, hl⟩) (fun C _ _ _ hL _ _ _ k => lv_dload C.1 C.2.1 hd (ax_ld hL hi) (k _ hL)) k
theorem x_dload_n {i : Fin 4} {n : UInt64} (hd : decode mt.2.1 pc = .ok (.dload_n i, 1)) (hi : ls[(i : Nat)]? = some (some (vD n))) (k : ax_Ex G mt d (pc + 1) ls (vD n :: st) M o M') : ax_Ex G mt d pc ls st M o M' :=
  ax_pure (fun hs hl _ => ⟨ax_oS_cons (ax_oL_get hl hi) hs, hl⟩) (fun C _ _ _ hL _ _ _ k => lv_dload_n C.1 C.2.1 hd rfl (ax_ld hL hi) (k _ hL)) k
theorem x_iconst {n : Int} (hd : decode mt.2.1 pc = .ok (.iconst n, 1)) (hn : ax_in n := by exact ⟨by decide, by decide⟩) (k : ax_Ex G mt d (pc + 1) ls (vI n :: st) M o M') : ax_Ex G mt d pc ls st M o M' :=
  ax_pure (fun hs hl _ => ⟨ax_oS_cons (ax_okI hn) hs, hl⟩) (fun C _ _ _ hL _ _ _ k => lv_iconst C.1 C.2.1 hd rfl (k _ hL)) k
theorem x_bipush {n : Int} (hd : decode mt.2.1 pc = .ok (.bipush n, 2)) (hv : (Int8.ofInt n).toInt32 = Int32.ofInt n := by decide) (hn : ax_in n := by exact ⟨by decide, by decide⟩) (k : ax_Ex G mt d (pc + 2) ls (vI n :: st) M o M') : ax_Ex G mt d pc ls st M o M' :=
  ax_pure (fun hs hl _ => ⟨ax_oS_cons (ax_okI hn) hs, hl⟩) (fun C _ _ _ hL _ _ _ k => lv_bipush C.1 C.2.1 hd hv (k _ hL)) k
theorem x_sipush {n : Int} (hd : decode mt.2.1 pc = .ok (.sipush n, 3)) (hv : (Int16.ofInt n).toInt32 = Int32.ofInt n := by decide) (hn : ax_in n := by exact ⟨by decide, by decide⟩) (k : ax_Ex G mt d (pc + 3) ls (vI n :: st) M o M') : ax_Ex G mt d pc ls st M o M' :=
  ax_pure (fun hs hl _ => ⟨ax_oS_cons (ax_okI hn) hs, hl⟩) (fun C _ _ _ hL _ _ _ k => lv_sipush C.1 C.2.1 hd hv (k _ hL)) k
theorem x_lconst {n : Fin 2} (hd : decode mt.2.1 pc = .ok (.lconst n, 1)) (k : ax_Ex G mt d (pc + 1) ls (vL (Int64.ofNat (n : Nat)) :: st) M o M') : ax_Ex G mt d pc ls st M o M' :=
  ax_pure (fun hs hl _ => ⟨ax_oS_cons (ax_okL) hs, hl⟩) (fun C _ _ _ hL _ _ _ k => lv_lconst C.1 C.2.1 hd rfl (k _ hL)) k
theorem x_null (hd : decode mt.2.1 pc = .ok (.aconst_null, 1)) (k : ax_Ex G mt d (pc + 1) ls (vN :: st) M o M') : ax_Ex G mt d pc ls st M o M' :=
  ax_pure (fun hs hl _ => ⟨ax_oS_cons (ax_okR) hs, hl⟩) (fun C _ _ _ hL _ _ _ k => lv_null C.1 C.2.1 hd (k _ hL)) k
theorem x_istore {i : Nat} {n : Int} {ls' : List (Option ax_V)} (hd : decode mt.2.1 pc = .ok (.istore i, 2)) (hn : i < mt.2.2.1) (hc : ax_c1 ls i = true) (hl : ls.set i (some (vI n)) = ls') (k : ax_Ex G mt d (pc + 2) ls' st M o M') : ax_Ex G mt d pc ls (vI n :: st) M o M' :=
  ax_pure (fun hs hl2 _ => ⟨ax_oS_tl hs, hl ▸ ax_oL_set hl2 (ax_oS_hd hs)⟩) (fun C _ _ _ hL _ _ _ k => lv_istore C.1 C.2.1 hd hL hn rfl (fun lc' h => k lc' (hl ▸ ax_has_sub h (ax_st1 hc)))) k
theorem x_istore_n {i : Fin 4} {n : Int} {ls' : List (Option ax_V)} (hd : decode mt.2.1 pc = .ok (.istore_n i, 1)) (hn : (i : Nat) < mt.2.2.1) (hc : ax_c1 ls (i : Nat) = true) (hl : ls.set (i : Nat) (some (vI n)) = ls') (k : ax_Ex G mt d (pc + 1) ls' st M o M') : ax_Ex G mt d pc ls (vI n :: st) M o M' :=
  ax_pure (fun hs hl2 _ => ⟨ax_oS_tl hs, hl ▸ ax_oL_set hl2 (ax_oS_hd hs)⟩) (fun C _ _ _ hL _ _ _ k => lv_istore_n C.1 C.2.1 hd rfl hL hn rfl (fun lc' h => k lc' (hl ▸ ax_has_sub h (ax_st1 hc)))) k
theorem x_astore {i : Nat} {n : Nat} {ls' : List (Option ax_V)} (hd : decode mt.2.1 pc = .ok (.astore i, 2)) (hn : i < mt.2.2.1) (hc : ax_c1 ls i = true) (hl : ls.set i (some (vR n)) = ls') (k : ax_Ex G mt d (pc + 2) ls' st M o M') : ax_Ex G mt d pc ls (vR n :: st) M o M' :=
  ax_pure (fun hs hl2 _ => ⟨ax_oS_tl hs, hl ▸ ax_oL_set hl2 (ax_okR)⟩) (fun C _ _ _ hL _ _ _ k => lv_astore C.1 C.2.1 hd hL hn rfl (fun lc' h => k lc' (hl ▸ ax_has_sub h (ax_st1 hc)))) k
theorem x_astore_n {i : Fin 4} {n : Nat} {ls' : List (Option ax_V)} (hd : decode mt.2.1 pc = .ok (.astore_n i, 1)) (hn : (i : Nat) < mt.2.2.1) (hc : ax_c1 ls (i : Nat) = true) (hl : ls.set (i : Nat) (some (vR n)) = ls') (k : ax_Ex G mt d (pc + 1) ls' st M o M') : ax_Ex G mt d pc ls (vR n :: st) M o M' :=
  ax_pure (fun hs hl2 _ => ⟨ax_oS_tl hs, hl ▸ ax_oL_set hl2 (ax_okR)⟩) (fun C _ _ _ hL _ _ _ k => lv_astore_n C.1 C.2.1 hd rfl hL hn rfl (fun lc' h => k lc' (hl ▸ ax_has_sub h (ax_st1 hc)))) k
theorem x_lstore {i : Nat} {n : Int64} {ls' : List (Option ax_V)} (hd : decode mt.2.1 pc = .ok (.lstore i, 2)) (hn : i + 1 < mt.2.2.1) (hc : ax_c1 ls i = true) (hl : (ls.set i (some (vL n))).set (i + 1) none = ls') (k : ax_Ex G mt d (pc + 2) ls' st M o M') : ax_Ex G mt d pc ls (vL n :: st) M o M' :=
  ax_pure (fun hs hl2 _ => ⟨ax_oS_tl hs, hl ▸ ax_oL_setN (ax_oL_set hl2 (ax_okL))⟩) (fun C _ _ _ hL _ _ _ k => lv_lstore C.1 C.2.1 hd hL hn rfl (fun lc' h => k lc' (hl ▸ ax_has_sub h (ax_st2 hc)))) k
theorem x_lstore_n {i : Fin 4} {n : Int64} {ls' : List (Option ax_V)} (hd : decode mt.2.1 pc = .ok (.lstore_n i, 1)) (hn : (i : Nat) + 1 < mt.2.2.1) (hc : ax_c1 ls (i : Nat) = true) (hl : (ls.set (i : Nat) (some (vL n))).set ((i : Nat) + 1) none = ls') (k : ax_Ex G mt d (pc + 1) ls' st M o M') : ax_Ex G mt d pc ls (vL n :: st) M o M' :=
  ax_pure (fun hs hl2 _ => ⟨ax_oS_tl hs, hl ▸ ax_oL_setN (ax_oL_set hl2 (ax_okL))⟩) (fun C _ _ _ hL _ _ _ k => lv_lstore_n C.1 C.2.1 hd rfl hL hn rfl (fun lc' h => k lc' (hl ▸ ax_has_sub h (ax_st2 hc)))) k
theorem x_dstore {i : Nat} {n : UInt64} {ls' : List (Option ax_V)} (hd : decode mt.2.1 pc = .ok (.dstore i, 2)) (hn : i + 1 < mt.2.2.1) (hc : ax_c1 ls i = true) (hl : (ls.set i (some (vD n))).set (i + 1) none = ls') (k : ax_Ex G mt d (pc + 2) ls' st M o M') : ax_Ex G mt d pc ls (vD n :: st) M o M' :=
  ax_pure (fun hs hl2 _ => ⟨ax_oS_tl hs, hl ▸ ax_oL_setN (ax_oL_set hl2 (ax_okD))⟩) (fun C _ _ _ hL _ _ _ k => lv_dstore C.1 C.2.1 hd hL hn rfl (fun lc' h => k lc' (hl ▸ ax_has_sub h (ax_st2 hc)))) k
theorem x_dstore_n {i : Fin 4} {n : UInt64} {ls' : List (Option ax_V)} (hd : decode mt.2.1 pc = .ok (.dstore_n i, 1)) (hn : (i : Nat) + 1 < mt.2.2.1) (hc : ax_c1 ls (i : Nat) = true) (hl : (ls.set (i : Nat) (some (vD n))).set ((i : Nat) + 1) none = ls') (k : ax_Ex G mt d (pc + 1) ls' st M o M') : ax_Ex G mt d pc ls (vD n :: st) M o M' :=
  ax_pure (fun hs hl2 _ => ⟨ax_oS_tl hs, hl ▸ ax_oL_setN (ax_oL_set hl2 (ax_okD))⟩) (fun C _ _ _ hL _ _ _ k => lv_dstore_n C.1 C.2.1 hd rfl hL hn rfl (fun lc' h => k lc' (hl ▸ ax_has_sub h (ax_st2 hc)))) k
theorem ax_lpk {G : ax_G} {ls : List (Option ax_V)} {i : Nat} {v : ax_V} (h : ls[i]? = some (some v)) : ∃ k : Nat, (ax_lp G 0 ls)[k]? = some (i, ax_cv G v) := by
  have h1 := (ax_lp_mem (G := G) ls 0 i (ax_cv G v)).mpr ⟨i, v, by omega, h, rfl⟩
  exact List.getElem?_of_mem h1
theorem x_iinc {i : Nat} {n a z : Int} {ls' : List (Option ax_V)} (hd : decode mt.2.1 pc = .ok (.iinc i a, 3)) (hi : ls[i]? = some (some (vI n))) (hn : i < mt.2.2.1) (hc : ax_c1 ls i = true) (hz : n + a = z) (hin : ax_in z) (hl : ls.set i (some (vI z)) = ls') (k : ax_Ex G mt d (pc + 3) ls' st M o M') : ax_Ex G mt d pc ls st M o M' :=
  ax_pure (fun hs hl2 _ => ⟨hs, hl ▸ ax_oL_set hl2 (ax_okI hin)⟩) (fun C _ _ _ hL _ _ _ k => by
    obtain ⟨q, hq⟩ := ax_lpk (G := G) hi
    exact lv_iinc (v := Int32.ofInt z) C.1 C.2.1 hd hL hq (by rw [← hz, Int32.ofInt_add]) hn rfl (fun lc' h => k lc' (hl ▸ ax_has_sub h (ax_st1 (G := G) (v := vI z) hc)))) k
theorem x_iadd {x y z : Int} (hd : decode mt.2.1 pc = .ok (.iadd, 1)) (hz : x + y = z) (hin : ax_in z) (k : ax_Ex G mt d (pc + 1) ls (vI z :: st) M o M') : ax_Ex G mt d pc ls (vI y :: vI x :: st) M o M' :=
  ax_pure (fun hs hl _ => ⟨ax_oS_cons (ax_okI hin) (ax_oS_tl (ax_oS_tl hs)), hl⟩) (fun C _ _ _ hL _ _ _ k => lv_iadd C.1 C.2.1 hd (by
    have h := k _ hL
    rw [← hz] at h
    simpa only [List.map_cons, ax_cv, Int32.ofInt_add] using h)) k
theorem x_iaddw {x y : Int} (hd : decode mt.2.1 pc = .ok (.iadd, 1)) (k : ax_Ex G mt d (pc + 1) ls (vI (wr (x + y)) :: st) M o M') : ax_Ex G mt d pc ls (vI y :: vI x :: st) M o M' :=
  ax_pure (fun hs hl _ => ⟨ax_oS_cons (ax_okI (wr_in _)) (ax_oS_tl (ax_oS_tl hs)), hl⟩) (fun C _ _ _ hL _ _ _ k => lv_iadd C.1 C.2.1 hd (by
    have h := k _ hL
    simpa only [List.map_cons, ax_cv, ax_wr, Int32.ofInt_add] using h)) k
theorem x_isub {x y z : Int} (hd : decode mt.2.1 pc = .ok (.isub, 1)) (hz : x - y = z) (hin : ax_in z) (k : ax_Ex G mt d (pc + 1) ls (vI z :: st) M o M') : ax_Ex G mt d pc ls (vI y :: vI x :: st) M o M' :=
  ax_pure (fun hs hl _ => ⟨ax_oS_cons (ax_okI hin) (ax_oS_tl (ax_oS_tl hs)), hl⟩) (fun C _ _ _ hL _ _ _ k => lv_isub C.1 C.2.1 hd (by
    have h := k _ hL
    rw [← hz] at h
    simpa only [List.map_cons, ax_cv, Int32.ofInt_sub] using h)) k
theorem x_isubw {x y : Int} (hd : decode mt.2.1 pc = .ok (.isub, 1)) (k : ax_Ex G mt d (pc + 1) ls (vI (wr (x - y)) :: st) M o M') : ax_Ex G mt d pc ls (vI y :: vI x :: st) M o M' :=
  ax_pure (fun hs hl _ => ⟨ax_oS_cons (ax_okI (wr_in _)) (ax_oS_tl (ax_oS_tl hs)), hl⟩) (fun C _ _ _ hL _ _ _ k => lv_isub C.1 C.2.1 hd (by
    have h := k _ hL
    simpa only [List.map_cons, ax_cv, ax_wr, Int32.ofInt_sub] using h)) k
theorem x_imul {x y z : Int} (hd : decode mt.2.1 pc = .ok (.imul, 1)) (hz : x * y = z) (hin : ax_in z) (k : ax_Ex G mt d (pc + 1) ls (vI z :: st) M o M') : ax_Ex G mt d pc ls (vI y :: vI x :: st) M o M' :=
  ax_pure (fun hs hl _ => ⟨ax_oS_cons (ax_okI hin) (ax_oS_tl (ax_oS_tl hs)), hl⟩) (fun C _ _ _ hL _ _ _ k => lv_imul C.1 C.2.1 hd (by
    have h := k _ hL
    rw [← hz] at h
    simpa only [List.map_cons, ax_cv, Int32.ofInt_mul] using h)) k
theorem x_imulw {x y : Int} (hd : decode mt.2.1 pc = .ok (.imul, 1)) (k : ax_Ex G mt d (pc + 1) ls (vI (wr (x * y)) :: st) M o M') : ax_Ex G mt d pc ls (vI y :: vI x :: st) M o M' :=
  ax_pure (fun hs hl _ => ⟨ax_oS_cons (ax_okI (wr_in _)) (ax_oS_tl (ax_oS_tl hs)), hl⟩) (fun C _ _ _ hL _ _ _ k => lv_imul C.1 C.2.1 hd (by
    have h := k _ hL
    simpa only [List.map_cons, ax_cv, ax_wr, Int32.ofInt_mul] using h)) k
theorem x_iand {x y z : Int} (hd : decode mt.2.1 pc = .ok (.iand, 1)) (hz : (Int32.ofInt x &&& Int32.ofInt y).toInt = z) (k : ax_Ex G mt d (pc + 1) ls (vI z :: st) M o M') : ax_Ex G mt d pc ls (vI y :: vI x :: st) M o M' :=
  ax_pure (fun hs hl _ => ⟨ax_oS_cons (ax_okI (hz ▸ ax_inOf _)) (ax_oS_tl (ax_oS_tl hs)), hl⟩) (fun C _ _ _ hL _ _ _ k => lv_iand C.1 C.2.1 hd (by
    have h := k _ hL
    rw [← hz] at h
    simpa only [List.map_cons, ax_cv, ax_ofTo] using h)) k
theorem x_ior {x y z : Int} (hd : decode mt.2.1 pc = .ok (.ior, 1)) (hz : (Int32.ofInt x ||| Int32.ofInt y).toInt = z) (k : ax_Ex G mt d (pc + 1) ls (vI z :: st) M o M') : ax_Ex G mt d pc ls (vI y :: vI x :: st) M o M' :=
  ax_pure (fun hs hl _ => ⟨ax_oS_cons (ax_okI (hz ▸ ax_inOf _)) (ax_oS_tl (ax_oS_tl hs)), hl⟩) (fun C _ _ _ hL _ _ _ k => lv_ior C.1 C.2.1 hd (by
    have h := k _ hL
    rw [← hz] at h
    simpa only [List.map_cons, ax_cv, ax_ofTo] using h)) k
theorem x_ixor {x y z : Int} (hd : decode mt.2.1 pc = .ok (.ixor, 1)) (hz : (Int32.ofInt x ^^^ Int32.ofInt y).toInt = z) (k : ax_Ex G mt d (pc + 1) ls (vI z :: st) M o M') : ax_Ex G mt d pc ls (vI y :: vI x :: st) M o M' :=
  ax_pure (fun hs hl _ => ⟨ax_oS_cons (ax_okI (hz ▸ ax_inOf _)) (ax_oS_tl (ax_oS_tl hs)), hl⟩) (fun C _ _ _ hL _ _ _ k => lv_ixor C.1 C.2.1 hd (by
    have h := k _ hL
    rw [← hz] at h
    simpa only [List.map_cons, ax_cv, ax_ofTo] using h)) k
theorem x_ishl {x y z : Int} (hd : decode mt.2.1 pc = .ok (.ishl, 1)) (hz : (Int32.ofInt x <<< (Int32.ofInt y &&& 31)).toInt = z) (k : ax_Ex G mt d (pc + 1) ls (vI z :: st) M o M') : ax_Ex G mt d pc ls (vI y :: vI x :: st) M o M' :=
  ax_pure (fun hs hl _ => ⟨ax_oS_cons (ax_okI (hz ▸ ax_inOf _)) (ax_oS_tl (ax_oS_tl hs)), hl⟩) (fun C _ _ _ hL _ _ _ k => lv_ishl C.1 C.2.1 hd (by
    have h := k _ hL
    rw [← hz] at h
    simpa only [List.map_cons, ax_cv, ax_ofTo] using h)) k
theorem x_ishr {x y z : Int} (hd : decode mt.2.1 pc = .ok (.ishr, 1)) (hz : (Int32.ofInt x >>> (Int32.ofInt y &&& 31)).toInt = z) (k : ax_Ex G mt d (pc + 1) ls (vI z :: st) M o M') : ax_Ex G mt d pc ls (vI y :: vI x :: st) M o M' :=
  ax_pure (fun hs hl _ => ⟨ax_oS_cons (ax_okI (hz ▸ ax_inOf _)) (ax_oS_tl (ax_oS_tl hs)), hl⟩) (fun C _ _ _ hL _ _ _ k => lv_ishr C.1 C.2.1 hd (by
    have h := k _ hL
    rw [← hz] at h
    simpa only [List.map_cons, ax_cv, ax_ofTo] using h)) k
theorem x_idiv {x y z : Int} (hd : decode mt.2.1 pc = .ok (.idiv, 1)) (hy : ¬ y = 0) (hz : (Int32.ofInt x / Int32.ofInt y).toInt = z) (k : ax_Ex G mt d (pc + 1) ls (vI z :: st) M o M') : ax_Ex G mt d pc ls (vI y :: vI x :: st) M o M' :=
  ax_pure (fun hs hl _ => ⟨ax_oS_cons (ax_okI (hz ▸ ax_inOf _)) (ax_oS_tl (ax_oS_tl hs)), hl⟩) (fun C _ _ _ hL hs _ _ k => lv_idiv C.1 C.2.1 hd (fun h => hy ((ax_eq0 (ax_oS_hd hs)).mp h)) (by
    have h := k _ hL
    rw [← hz] at h
    simpa only [List.map_cons, ax_cv, ax_ofTo] using h)) k
theorem x_irem {x y z : Int} (hd : decode mt.2.1 pc = .ok (.irem, 1)) (hy : ¬ y = 0) (hz : (Int32.ofInt x - Int32.ofInt x / Int32.ofInt y * Int32.ofInt y).toInt = z) (k : ax_Ex G mt d (pc + 1) ls (vI z :: st) M o M') : ax_Ex G mt d pc ls (vI y :: vI x :: st) M o M' :=
  ax_pure (fun hs hl _ => ⟨ax_oS_cons (ax_okI (hz ▸ ax_inOf _)) (ax_oS_tl (ax_oS_tl hs)), hl⟩) (fun C _ _ _ hL hs _ _ k => lv_irem C.1 C.2.1 hd (fun h => hy ((ax_eq0 (ax_oS_hd hs)).mp h)) (by
    have h := k _ hL
    rw [← hz] at h
    simpa only [List.map_cons, ax_cv, ax_ofTo] using h)) k
theorem x_iushr {x y z : Int} (hd : decode mt.2.1 pc = .ok (.iushr, 1)) (hz : ((Int32.ofInt x).toUInt32 >>> ((Int32.ofInt y).toUInt32 &&& Int32.toUInt32 31)).toInt32.toInt = z) (k : ax_Ex G mt d (pc + 1) ls (vI z :: st) M o M') : ax_Ex G mt d pc ls (vI y :: vI x :: st) M o M' :=
  ax_pure (fun hs hl _ => ⟨ax_oS_cons (ax_okI (hz ▸ ax_inOf _)) (ax_oS_tl (ax_oS_tl hs)), hl⟩) (fun C _ _ _ hL _ _ _ k => lv_iushr C.1 C.2.1 hd rfl (by
    have h := k _ hL
    rw [← hz] at h
    simpa only [List.map_cons, ax_cv, ax_ofTo] using h)) k
theorem x_ineg {x : Int} (hd : decode mt.2.1 pc = .ok (.ineg, 1)) (k : ax_Ex G mt d (pc + 1) ls (vI (wr (-x)) :: st) M o M') : ax_Ex G mt d pc ls (vI x :: st) M o M' :=
  ax_pure (fun hs hl _ => ⟨ax_oS_cons (ax_okI (wr_in _)) (ax_oS_tl hs), hl⟩) (fun C _ _ _ hL _ _ _ k => lv_ineg C.1 C.2.1 hd (by
    have h := k _ hL
    simpa only [List.map_cons, ax_cv, ax_wr, Int32.ofInt_neg] using h)) k
theorem x_i2b {x z : Int} (hd : decode mt.2.1 pc = .ok (.i2b, 1)) (hz : (Int32.ofInt x).toInt8.toInt32.toInt = z) (k : ax_Ex G mt d (pc + 1) ls (vI z :: st) M o M') : ax_Ex G mt d pc ls (vI x :: st) M o M' :=
  ax_pure (fun hs hl _ => ⟨ax_oS_cons (ax_okI (hz ▸ ax_inOf _)) (ax_oS_tl hs), hl⟩) (fun C _ _ _ hL _ _ _ k => lv_i2b C.1 C.2.1 hd rfl (by
    have h := k _ hL
    rw [← hz] at h
    simpa only [List.map_cons, ax_cv, ax_ofTo] using h)) k
theorem x_i2c {x z : Int} (hd : decode mt.2.1 pc = .ok (.i2c, 1)) (hz : ((Int32.ofInt x).toUInt32 % 65536).toInt32.toInt = z) (k : ax_Ex G mt d (pc + 1) ls (vI z :: st) M o M') : ax_Ex G mt d pc ls (vI x :: st) M o M' :=
  ax_pure (fun hs hl _ => ⟨ax_oS_cons (ax_okI (hz ▸ ax_inOf _)) (ax_oS_tl hs), hl⟩) (fun C _ _ _ hL _ _ _ k => lv_i2c C.1 C.2.1 hd rfl (by
    have h := k _ hL
    rw [← hz] at h
    simpa only [List.map_cons, ax_cv, ax_ofTo] using h)) k
theorem x_i2l {x : Int} (hd : decode mt.2.1 pc = .ok (.i2l, 1)) (k : ax_Ex G mt d (pc + 1) ls (vL (Int32.ofInt x).toInt64 :: st) M o M') : ax_Ex G mt d pc ls (vI x :: st) M o M' :=
  ax_pure (fun hs hl _ => ⟨ax_oS_cons ax_okL (ax_oS_tl hs), hl⟩) (fun C _ _ _ hL _ _ _ k => lv_i2l C.1 C.2.1 hd rfl (k _ hL)) k
theorem x_ladd {x y : Int64} (hd : decode mt.2.1 pc = .ok (.ladd, 1)) (k : ax_Ex G mt d (pc + 1) ls (vL (x + y) :: st) M o M') : ax_Ex G mt d pc ls (vL y :: vL x :: st) M o M' :=
  ax_pure (fun hs hl _ => ⟨ax_oS_cons ax_okL (ax_oS_tl (ax_oS_tl hs)), hl⟩) (fun C _ _ _ hL _ _ _ k => lv_ladd C.1 C.2.1 hd (k _ hL)) k
theorem x_lmul {x y : Int64} (hd : decode mt.2.1 pc = .ok (.lmul, 1)) (k : ax_Ex G mt d (pc + 1) ls (vL (x * y) :: st) M o M') : ax_Ex G mt d pc ls (vL y :: vL x :: st) M o M' :=
  ax_pure (fun hs hl _ => ⟨ax_oS_cons ax_okL (ax_oS_tl (ax_oS_tl hs)), hl⟩) (fun C _ _ _ hL _ _ _ k => lv_lmul C.1 C.2.1 hd (k _ hL)) k
theorem ax_cat1 {G : ax_G} {v : ax_V} (h : ax_c2 v = false) : (ax_cv G v).category = 1 := by
  rcases v with n | r | x | x
  · rfl
  · cases r <;> rfl
  · cases h
  · cases h
theorem x_dup {v : ax_V} (hd : decode mt.2.1 pc = .ok (.dup, 1)) (hc : ax_c2 v = false) (k : ax_Ex G mt d (pc + 1) ls (v :: v :: st) M o M') : ax_Ex G mt d pc ls (v :: st) M o M' :=
  ax_pure (fun hs hl _ => ⟨ax_oS_cons (ax_oS_hd hs) hs, hl⟩) (fun C _ _ _ hL _ _ _ k => lv_dup C.1 C.2.1 hd (ax_cat1 hc) (k _ hL)) k
theorem x_pop {v : ax_V} (hd : decode mt.2.1 pc = .ok (.pop, 1)) (hc : ax_c2 v = false) (k : ax_Ex G mt d (pc + 1) ls st M o M') : ax_Ex G mt d pc ls (v :: st) M o M' :=
  ax_pure (fun hs hl _ => ⟨ax_oS_tl hs, hl⟩) (fun C _ _ _ hL _ _ _ k => lv_pop C.1 C.2.1 hd (ax_cat1 hc) (k _ hL)) k
theorem x_dup2 {v w : ax_V} (hd : decode mt.2.1 pc = .ok (.dup2, 1)) (hv : ax_c2 v = false) (hw : ax_c2 w = false) (k : ax_Ex G mt d (pc + 1) ls (v :: w :: v :: w :: st) M o M') : ax_Ex G mt d pc ls (v :: w :: st) M o M' :=
  ax_pure (fun hs hl _ => ⟨ax_oS_cons (ax_oS_hd hs) (ax_oS_cons (ax_oS_hd (ax_oS_tl hs)) hs), hl⟩) (fun C _ _ _ hL _ _ _ k => lv_dup2_11 C.1 C.2.1 hd (ax_cat1 hv) (ax_cat1 hw) (k _ hL)) k
theorem x_goto {off : Int} {tgt : Nat} (hd : decode mt.2.1 pc = .ok (.goto off, 3)) (ht : (pc : Int) + off = (tgt : Int)) (k : ax_Ex G mt d tgt ls st M o M') : ax_Ex G mt d pc ls st M o M' :=
  ax_pure (fun hs hl _ => ⟨hs, hl⟩) (fun C _ _ _ hL _ _ _ k => lv_goto C.1 C.2.1 hd ht (k _ hL)) k
theorem x_icmpeq {x y : Int} {off : Int} {tgt : Nat} (hd : decode mt.2.1 pc = .ok (.if_icmp .eq off, 3)) (ht : (pc : Int) + off = (tgt : Int)) (kt : x = y → ax_Ex G mt d tgt ls st M o M') (kf : ¬ x = y → ax_Ex G mt d (pc + 3) ls st M o M') : ax_Ex G mt d pc ls (vI y :: vI x :: st) M o M' := by
  by_cases hb : x = y
  · refine ax_pure (fun hs hl _ => ⟨ax_oS_tl (ax_oS_tl hs), hl⟩) (fun C _ _ _ hL hs _ _ k => ?_) (kt hb)
    refine lv_icmp_eq C.1 C.2.1 hd ht (fun _ => k _ hL) (fun hn => ?_)
    exfalso
    · have hy := ax_oS_hd hs
      have hx := ax_oS_hd (ax_oS_tl hs)
      have hh := ax_eqI hx hy
      first | exact hn (hh.mpr hb) | exact hn (fun q => hb (hh.mp q)) | exact (hb (hh.mp hn)).elim
  · refine ax_pure (fun hs hl _ => ⟨ax_oS_tl (ax_oS_tl hs), hl⟩) (fun C _ _ _ hL hs _ _ k => ?_) (kf (by omega))
    refine lv_icmp_eq C.1 C.2.1 hd ht (fun hn => ?_) (fun _ => k _ hL)
    exfalso
    · have hy := ax_oS_hd hs
      have hx := ax_oS_hd (ax_oS_tl hs)
      have hh := ax_eqI hx hy
      first | exact hb (hh.mp hn) | exact hb (fun q => hn (hh.mpr q)) | exact hn (hh.mpr (by omega))
theorem x_ifeq {x : Int} {off : Int} {tgt : Nat} (hd : decode mt.2.1 pc = .ok (.ifCond .eq off, 3)) (ht : (pc : Int) + off = (tgt : Int)) (kt : x = 0 → ax_Ex G mt d tgt ls st M o M') (kf : ¬ x = 0 → ax_Ex G mt d (pc + 3) ls st M o M') : ax_Ex G mt d pc ls (vI x :: st) M o M' := by
  by_cases hb : x = 0
  · refine ax_pure (fun hs hl _ => ⟨ax_oS_tl hs, hl⟩) (fun C _ _ _ hL hs _ _ k => ?_) (kt hb)
    refine lv_if_eq C.1 C.2.1 hd ht (fun _ => k _ hL) (fun hn => ?_)
    exfalso
    · have hx := ax_oS_hd hs
      have hy := ax_in0
      have hh := ax_eqI hx hy
      first | exact hn (hh.mpr hb) | exact hn (fun q => hb (hh.mp q)) | exact (hb (hh.mp hn)).elim
  · refine ax_pure (fun hs hl _ => ⟨ax_oS_tl hs, hl⟩) (fun C _ _ _ hL hs _ _ k => ?_) (kf (by omega))
    refine lv_if_eq C.1 C.2.1 hd ht (fun hn => ?_) (fun _ => k _ hL)
    exfalso
    · have hx := ax_oS_hd hs
      have hy := ax_in0
      have hh := ax_eqI hx hy
      first | exact hb (hh.mp hn) | exact hb (fun q => hn (hh.mpr q)) | exact hn (hh.mpr (by omega))
theorem x_icmpne {x y : Int} {off : Int} {tgt : Nat} (hd : decode mt.2.1 pc = .ok (.if_icmp .ne off, 3)) (ht : (pc : Int) + off = (tgt : Int)) (kt : ¬ x = y → ax_Ex G mt d tgt ls st M o M') (kf : x = y → ax_Ex G mt d (pc + 3) ls st M o M') : ax_Ex G mt d pc ls (vI y :: vI x :: st) M o M' := by
  by_cases hb : ¬ x = y
  · refine ax_pure (fun hs hl _ => ⟨ax_oS_tl (ax_oS_tl hs), hl⟩) (fun C _ _ _ hL hs _ _ k => ?_) (kt hb)
    refine lv_icmp_ne C.1 C.2.1 hd ht (fun _ => k _ hL) (fun hn => ?_)
    exfalso
    · have hy := ax_oS_hd hs
      have hx := ax_oS_hd (ax_oS_tl hs)
      have hh := ax_eqI hx hy
      first | exact hn (hh.mpr hb) | exact hn (fun q => hb (hh.mp q)) | exact (hb (hh.mp hn)).elim
  · refine ax_pure (fun hs hl _ => ⟨ax_oS_tl (ax_oS_tl hs), hl⟩) (fun C _ _ _ hL hs _ _ k => ?_) (kf (by omega))
    refine lv_icmp_ne C.1 C.2.1 hd ht (fun hn => ?_) (fun _ => k _ hL)
    exfalso
    · have hy := ax_oS_hd hs
      have hx := ax_oS_hd (ax_oS_tl hs)
      have hh := ax_eqI hx hy
      first | exact hb (hh.mp hn) | exact hb (fun q => hn (hh.mpr q)) | exact hn (hh.mpr (by omega))
theorem x_ifne {x : Int} {off : Int} {tgt : Nat} (hd : decode mt.2.1 pc = .ok (.ifCond .ne off, 3)) (ht : (pc : Int) + off = (tgt : Int)) (kt : ¬ x = 0 → ax_Ex G mt d tgt ls st M o M') (kf : x = 0 → ax_Ex G mt d (pc + 3) ls st M o M') : ax_Ex G mt d pc ls (vI x :: st) M o M' := by
  by_cases hb : ¬ x = 0
  · refine ax_pure (fun hs hl _ => ⟨ax_oS_tl hs, hl⟩) (fun C _ _ _ hL hs _ _ k => ?_) (kt hb)
    refine lv_if_ne C.1 C.2.1 hd ht (fun _ => k _ hL) (fun hn => ?_)
    exfalso
    · have hx := ax_oS_hd hs
      have hy := ax_in0
      have hh := ax_eqI hx hy
      first | exact hn (hh.mpr hb) | exact hn (fun q => hb (hh.mp q)) | exact (hb (hh.mp hn)).elim
  · refine ax_pure (fun hs hl _ => ⟨ax_oS_tl hs, hl⟩) (fun C _ _ _ hL hs _ _ k => ?_) (kf (by omega))
    refine lv_if_ne C.1 C.2.1 hd ht (fun hn => ?_) (fun _ => k _ hL)
    exfalso
    · have hx := ax_oS_hd hs
      have hy := ax_in0
      have hh := ax_eqI hx hy
      first | exact hb (hh.mp hn) | exact hb (fun q => hn (hh.mpr q)) | exact hn (hh.mpr (by omega))
theorem x_icmplt {x y : Int} {off : Int} {tgt : Nat} (hd : decode mt.2.1 pc = .ok (.if_icmp .lt off, 3)) (ht : (pc : Int) + off = (tgt : Int)) (kt : x < y → ax_Ex G mt d tgt ls st M o M') (kf : y ≤ x → ax_Ex G mt d (pc + 3) ls st M o M') : ax_Ex G mt d pc ls (vI y :: vI x :: st) M o M' := by
  by_cases hb : x < y
  · refine ax_pure (fun hs hl _ => ⟨ax_oS_tl (ax_oS_tl hs), hl⟩) (fun C _ _ _ hL hs _ _ k => ?_) (kt hb)
    refine lv_icmp_lt C.1 C.2.1 hd ht (fun _ => k _ hL) (fun hn => ?_)
    exfalso
    · have hy := ax_oS_hd hs
      have hx := ax_oS_hd (ax_oS_tl hs)
      have hh := ax_ltI hx hy
      first | exact hn (hh.mpr hb) | exact hn (fun q => hb (hh.mp q)) | exact (hb (hh.mp hn)).elim
  · refine ax_pure (fun hs hl _ => ⟨ax_oS_tl (ax_oS_tl hs), hl⟩) (fun C _ _ _ hL hs _ _ k => ?_) (kf (by omega))
    refine lv_icmp_lt C.1 C.2.1 hd ht (fun hn => ?_) (fun _ => k _ hL)
    exfalso
    · have hy := ax_oS_hd hs
      have hx := ax_oS_hd (ax_oS_tl hs)
      have hh := ax_ltI hx hy
      first | exact hb (hh.mp hn) | exact hb (fun q => hn (hh.mpr q)) | exact hn (hh.mpr (by omega))
theorem x_iflt {x : Int} {off : Int} {tgt : Nat} (hd : decode mt.2.1 pc = .ok (.ifCond .lt off, 3)) (ht : (pc : Int) + off = (tgt : Int)) (kt : x < 0 → ax_Ex G mt d tgt ls st M o M') (kf : 0 ≤ x → ax_Ex G mt d (pc + 3) ls st M o M') : ax_Ex G mt d pc ls (vI x :: st) M o M' := by
  by_cases hb : x < 0
  · refine ax_pure (fun hs hl _ => ⟨ax_oS_tl hs, hl⟩) (fun C _ _ _ hL hs _ _ k => ?_) (kt hb)
    refine lv_if_lt C.1 C.2.1 hd ht (fun _ => k _ hL) (fun hn => ?_)
    exfalso
    · have hx := ax_oS_hd hs
      have hy := ax_in0
      have hh := ax_ltI hx hy
      first | exact hn (hh.mpr hb) | exact hn (fun q => hb (hh.mp q)) | exact (hb (hh.mp hn)).elim
  · refine ax_pure (fun hs hl _ => ⟨ax_oS_tl hs, hl⟩) (fun C _ _ _ hL hs _ _ k => ?_) (kf (by omega))
    refine lv_if_lt C.1 C.2.1 hd ht (fun hn => ?_) (fun _ => k _ hL)
    exfalso
    · have hx := ax_oS_hd hs
      have hy := ax_in0
      have hh := ax_ltI hx hy
      first | exact hb (hh.mp hn) | exact hb (fun q => hn (hh.mpr q)) | exact hn (hh.mpr (by omega))
theorem x_icmpge {x y : Int} {off : Int} {tgt : Nat} (hd : decode mt.2.1 pc = .ok (.if_icmp .ge off, 3)) (ht : (pc : Int) + off = (tgt : Int)) (kt : y ≤ x → ax_Ex G mt d tgt ls st M o M') (kf : x < y → ax_Ex G mt d (pc + 3) ls st M o M') : ax_Ex G mt d pc ls (vI y :: vI x :: st) M o M' := by
  by_cases hb : y ≤ x
  · refine ax_pure (fun hs hl _ => ⟨ax_oS_tl (ax_oS_tl hs), hl⟩) (fun C _ _ _ hL hs _ _ k => ?_) (kt hb)
    refine lv_icmp_ge C.1 C.2.1 hd ht (fun _ => k _ hL) (fun hn => ?_)
    exfalso
    · have hy := ax_oS_hd hs
      have hx := ax_oS_hd (ax_oS_tl hs)
      have hh := ax_leI hy hx
      first | exact hn (hh.mpr hb) | exact hn (fun q => hb (hh.mp q)) | exact (hb (hh.mp hn)).elim
  · refine ax_pure (fun hs hl _ => ⟨ax_oS_tl (ax_oS_tl hs), hl⟩) (fun C _ _ _ hL hs _ _ k => ?_) (kf (by omega))
    refine lv_icmp_ge C.1 C.2.1 hd ht (fun hn => ?_) (fun _ => k _ hL)
    exfalso
    · have hy := ax_oS_hd hs
      have hx := ax_oS_hd (ax_oS_tl hs)
      have hh := ax_leI hy hx
      first | exact hb (hh.mp hn) | exact hb (fun q => hn (hh.mpr q)) | exact hn (hh.mpr (by omega))
theorem x_ifge {x : Int} {off : Int} {tgt : Nat} (hd : decode mt.2.1 pc = .ok (.ifCond .ge off, 3)) (ht : (pc : Int) + off = (tgt : Int)) (kt : 0 ≤ x → ax_Ex G mt d tgt ls st M o M') (kf : x < 0 → ax_Ex G mt d (pc + 3) ls st M o M') : ax_Ex G mt d pc ls (vI x :: st) M o M' := by
  by_cases hb : 0 ≤ x
  · refine ax_pure (fun hs hl _ => ⟨ax_oS_tl hs, hl⟩) (fun C _ _ _ hL hs _ _ k => ?_) (kt hb)
    refine lv_if_ge C.1 C.2.1 hd ht (fun _ => k _ hL) (fun hn => ?_)
    exfalso
    · have hx := ax_oS_hd hs
      have hy := ax_in0
      have hh := ax_leI hy hx
      first | exact hn (hh.mpr hb) | exact hn (fun q => hb (hh.mp q)) | exact (hb (hh.mp hn)).elim
  · refine ax_pure (fun hs hl _ => ⟨ax_oS_tl hs, hl⟩) (fun C _ _ _ hL hs _ _ k => ?_) (kf (by omega))
    refine lv_if_ge C.1 C.2.1 hd ht (fun hn => ?_) (fun _ => k _ hL)
    exfalso
    · have hx := ax_oS_hd hs
      have hy := ax_in0
      have hh := ax_leI hy hx
      first | exact hb (hh.mp hn) | exact hb (fun q => hn (hh.mpr q)) | exact hn (hh.mpr (by omega))
theorem x_icmpgt {x y : Int} {off : Int} {tgt : Nat} (hd : decode mt.2.1 pc = .ok (.if_icmp .gt off, 3)) (ht : (pc : Int) + off = (tgt : Int)) (kt : y < x → ax_Ex G mt d tgt ls st M o M') (kf : x ≤ y → ax_Ex G mt d (pc + 3) ls st M o M') : ax_Ex G mt d pc ls (vI y :: vI x :: st) M o M' := by
  by_cases hb : y < x
  · refine ax_pure (fun hs hl _ => ⟨ax_oS_tl (ax_oS_tl hs), hl⟩) (fun C _ _ _ hL hs _ _ k => ?_) (kt hb)
    refine lv_icmp_gt C.1 C.2.1 hd ht (fun _ => k _ hL) (fun hn => ?_)
    exfalso
    · have hy := ax_oS_hd hs
      have hx := ax_oS_hd (ax_oS_tl hs)
      have hh := ax_ltI hy hx
      first | exact hn (hh.mpr hb) | exact hn (fun q => hb (hh.mp q)) | exact (hb (hh.mp hn)).elim
  · refine ax_pure (fun hs hl _ => ⟨ax_oS_tl (ax_oS_tl hs), hl⟩) (fun C _ _ _ hL hs _ _ k => ?_) (kf (by omega))
    refine lv_icmp_gt C.1 C.2.1 hd ht (fun hn => ?_) (fun _ => k _ hL)
    exfalso
    · have hy := ax_oS_hd hs
      have hx := ax_oS_hd (ax_oS_tl hs)
      have hh := ax_ltI hy hx
      first | exact hb (hh.mp hn) | exact hb (fun q => hn (hh.mpr q)) | exact hn (hh.mpr (by omega))
theorem x_ifgt {x : Int} {off : Int} {tgt : Nat} (hd : decode mt.2.1 pc = .ok (.ifCond .gt off, 3)) (ht : (pc : Int) + off = (tgt : Int)) (kt : 0 < x → ax_Ex G mt d tgt ls st M o M') (kf : x ≤ 0 → ax_Ex G mt d (pc + 3) ls st M o M') : ax_Ex G mt d pc ls (vI x :: st) M o M' := by
  by_cases hb : 0 < x
  · refine ax_pure (fun hs hl _ => ⟨ax_oS_tl hs, hl⟩) (fun C _ _ _ hL hs _ _ k => ?_) (kt hb)
    refine lv_if_gt C.1 C.2.1 hd ht (fun _ => k _ hL) (fun hn => ?_)
    exfalso
    · have hx := ax_oS_hd hs
      have hy := ax_in0
      have hh := ax_ltI hy hx
      first | exact hn (hh.mpr hb) | exact hn (fun q => hb (hh.mp q)) | exact (hb (hh.mp hn)).elim
  · refine ax_pure (fun hs hl _ => ⟨ax_oS_tl hs, hl⟩) (fun C _ _ _ hL hs _ _ k => ?_) (kf (by omega))
    refine lv_if_gt C.1 C.2.1 hd ht (fun hn => ?_) (fun _ => k _ hL)
    exfalso
    · have hx := ax_oS_hd hs
      have hy := ax_in0
      have hh := ax_ltI hy hx
      first | exact hb (hh.mp hn) | exact hb (fun q => hn (hh.mpr q)) | exact hn (hh.mpr (by omega))
theorem x_icmple {x y : Int} {off : Int} {tgt : Nat} (hd : decode mt.2.1 pc = .ok (.if_icmp .le off, 3)) (ht : (pc : Int) + off = (tgt : Int)) (kt : x ≤ y → ax_Ex G mt d tgt ls st M o M') (kf : y < x → ax_Ex G mt d (pc + 3) ls st M o M') : ax_Ex G mt d pc ls (vI y :: vI x :: st) M o M' := by
  by_cases hb : x ≤ y
  · refine ax_pure (fun hs hl _ => ⟨ax_oS_tl (ax_oS_tl hs), hl⟩) (fun C _ _ _ hL hs _ _ k => ?_) (kt hb)
    refine lv_icmp_le C.1 C.2.1 hd ht (fun _ => k _ hL) (fun hn => ?_)
    exfalso
    · have hy := ax_oS_hd hs
      have hx := ax_oS_hd (ax_oS_tl hs)
      have hh := ax_leI hx hy
      first | exact hn (hh.mpr hb) | exact hn (fun q => hb (hh.mp q)) | exact (hb (hh.mp hn)).elim
  · refine ax_pure (fun hs hl _ => ⟨ax_oS_tl (ax_oS_tl hs), hl⟩) (fun C _ _ _ hL hs _ _ k => ?_) (kf (by omega))
    refine lv_icmp_le C.1 C.2.1 hd ht (fun hn => ?_) (fun _ => k _ hL)
    exfalso
    · have hy := ax_oS_hd hs
      have hx := ax_oS_hd (ax_oS_tl hs)
      have hh := ax_leI hx hy
      first | exact hb (hh.mp hn) | exact hb (fun q => hn (hh.mpr q)) | exact hn (hh.mpr (by omega))
theorem x_ifle {x : Int} {off : Int} {tgt : Nat} (hd : decode mt.2.1 pc = .ok (.ifCond .le off, 3)) (ht : (pc : Int) + off = (tgt : Int)) (kt : x ≤ 0 → ax_Ex G mt d tgt ls st M o M') (kf : 0 < x → ax_Ex G mt d (pc + 3) ls st M o M') : ax_Ex G mt d pc ls (vI x :: st) M o M' := by
  by_cases hb : x ≤ 0
  · refine ax_pure (fun hs hl _ => ⟨ax_oS_tl hs, hl⟩) (fun C _ _ _ hL hs _ _ k => ?_) (kt hb)
    refine lv_if_le C.1 C.2.1 hd ht (fun _ => k _ hL) (fun hn => ?_)
    exfalso
    · have hx := ax_oS_hd hs
      have hy := ax_in0
      have hh := ax_leI hx hy
      first | exact hn (hh.mpr hb) | exact hn (fun q => hb (hh.mp q)) | exact (hb (hh.mp hn)).elim
  · refine ax_pure (fun hs hl _ => ⟨ax_oS_tl hs, hl⟩) (fun C _ _ _ hL hs _ _ k => ?_) (kf (by omega))
    refine lv_if_le C.1 C.2.1 hd ht (fun hn => ?_) (fun _ => k _ hL)
    exfalso
    · have hx := ax_oS_hd hs
      have hy := ax_in0
      have hh := ax_leI hx hy
      first | exact hb (hh.mp hn) | exact hb (fun q => hn (hh.mpr q)) | exact hn (hh.mpr (by omega))
end AXR
