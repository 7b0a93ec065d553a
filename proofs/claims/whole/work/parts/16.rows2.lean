/-! rows as the walks by program use them -/
abbrev axPs (G : ax_G) (a b : Nat) : Prop := ∀ k, a ≤ k → k < b → gPh G k = true
section AXR2
variable {G : ax_G} {mt mt' : ax_T} {d pc : Nat} {ls : List (Option ax_V)} {st rest : List ax_V} {M M' M1 : ax_M} {o : Option ax_V ⊕ String}
theorem axH {a b k : Nat} (h : axPs G a b) (c : (Nat.ble a k && Nat.ble (k + 1) b) = true) : gPh G k = true := by
  obtain ⟨h1, h2⟩ := Bool.and_eq_true_iff.mp c
  exact h k (Nat.le_of_ble_eq_true h1) (Nat.le_of_ble_eq_true h2)
theorem axEx {a b k : Nat} (h : axPs G a b) (c : (Nat.ble a k && Nat.ble (k + 1) b && Nat.ble 150 k) = true) : ax_ex G M k := by
  obtain ⟨h1, h2⟩ := Bool.and_eq_true_iff.mp c
  exact ax_exB (axH h h1) (Nat.le_of_ble_eq_true h2)
theorem axE' {k : Nat} (h : gPh G k = true) (h0 : 150 ≤ k) : ax_ex G M k := ax_exB h h0
theorem axPs.sub {a b a' b' : Nat} (h : axPs G a b) (h1 : a ≤ a') (h2 : b' ≤ b) : axPs G a' b' := fun k c1 c2 => h k (Nat.le_trans h1 c1) (Nat.lt_of_lt_of_le c2 h2)
/-- a row of ints that is made in a call stands still -/
abbrev axDy (M : ax_M) (k n : Nat) : Prop := 244 ≤ k ∧ k < 150 + mSz M ∧ mSh M k = (32, n)
theorem axDy.ex {k n : Nat} (h : axDy M k n) : ax_ex G M k := ⟨by show 150 ≤ k; omega, Or.inl h.2.1⟩
theorem axDy.sh {k n : Nat} (h : axDy M k n) : ax_sh M k = (32, n) := by
  unfold ax_sh
  rw [if_neg (by show ¬ k < 244; omega)]
  exact h.2.2
theorem ax_cmp {x y : Int} (k : -2147483648 ≤ x → x ≤ 2147483647 → -2147483648 ≤ y → y ≤ 2147483647 → ax_Ex G mt d pc ls (vI y :: vI x :: st) M o M') : ax_Ex G mt d pc ls (vI y :: vI x :: st) M o M' :=
  ax_know (fun _ hs _ => by
    have h1 := ax_oS_hd hs
    have h2 := ax_oS_hd (ax_oS_tl hs)
    exact k h2.1 (Int.le_of_lt_add_one h2.2) h1.1 (Int.le_of_lt_add_one h1.2))
theorem ax_cmp1 {x : Int} (k : -2147483648 ≤ x → x ≤ 2147483647 → ax_Ex G mt d pc ls (vI x :: st) M o M') : ax_Ex G mt d pc ls (vI x :: st) M o M' :=
  ax_know (fun _ hs _ => by
    have h1 := ax_oS_hd hs
    exact k h1.1 (Int.le_of_lt_add_one h1.2))
theorem ax_i {x : Int} (h1 : -2147483648 ≤ x) (h2 : x ≤ 2147483647) : ax_in x := ⟨h1, by omega⟩
theorem ax_tn' {i : Int} (h : 0 ≤ i) : i = ((i.toNat : Nat) : Int) := (Int.toNat_of_nonneg h).symm
theorem ax_tl {i : Int} {n : Nat} (h0 : 0 ≤ i) (h : i < (n : Int)) : i.toNat < n := by omega
theorem x_iald2 {k n : Nat} {i : Int} (hd : decode mt.2.1 pc = .ok (.iaload, 1)) (hk : ax_ex G M k) (hs : ax_sh M k = (32, n)) (h0 : 0 ≤ i) (h1 : i < (n : Int)) (k' : ax_Ex G mt d (pc + 1) ls (vI (mI M k i.toNat) :: st) M o M') : ax_Ex G mt d pc ls (vI i :: vR k :: st) M o M' :=
  x_iald hd hk hs (ax_tn' h0) (ax_tl h0 h1) k'
theorem x_bald2 {k n : Nat} {i : Int} (hd : decode mt.2.1 pc = .ok (.baload, 1)) (hk : ax_ex G M k) (hs : ax_sh M k = (33, n)) (h0 : 0 ≤ i) (h1 : i < (n : Int)) (k' : ax_Ex G mt d (pc + 1) ls (vI (mI M k i.toNat) :: st) M o M') : ax_Ex G mt d pc ls (vI i :: vR k :: st) M o M' :=
  x_bald hd hk hs (ax_tn' h0) (ax_tl h0 h1) k'
theorem x_zald2 {k n : Nat} {i : Int} (hd : decode mt.2.1 pc = .ok (.baload, 1)) (hk : ax_ex G M k) (hs : ax_sh M k = (34, n)) (h0 : 0 ≤ i) (h1 : i < (n : Int)) (k' : ax_Ex G mt d (pc + 1) ls (vI (mI M k i.toNat) :: st) M o M') : ax_Ex G mt d pc ls (vI i :: vR k :: st) M o M' :=
  x_zald hd hk hs (ax_tn' h0) (ax_tl h0 h1) k'
theorem x_lald2 {k n : Nat} {i : Int} (hd : decode mt.2.1 pc = .ok (.laload, 1)) (hk : ax_ex G M k) (hs : ax_sh M k = (35, n)) (h0 : 0 ≤ i) (h1 : i < (n : Int)) (k' : ax_Ex G mt d (pc + 1) ls (vL (mJ M k i.toNat) :: st) M o M') : ax_Ex G mt d pc ls (vI i :: vR k :: st) M o M' :=
  x_lald hd hk hs (ax_tn' h0) (ax_tl h0 h1) k'
theorem x_iast2 {k n : Nat} {i v : Int} (hd : decode mt.2.1 pc = .ok (.iastore, 1)) (hk : ax_ex G M k) (hs : ax_sh M k = (32, n)) (h0 : 0 ≤ i) (h1 : i < (n : Int)) (k' : ax_Ex G mt d (pc + 1) ls st (mUI M k i.toNat v) o M') : ax_Ex G mt d pc ls (vI v :: vI i :: vR k :: st) M o M' :=
  x_iast hd hk hs (ax_tn' h0) (ax_tl h0 h1) k'
theorem x_zast2 {k n : Nat} {i v : Int} (hd : decode mt.2.1 pc = .ok (.bastore, 1)) (hk : ax_ex G M k) (hs : ax_sh M k = (34, n)) (h0 : 0 ≤ i) (h1 : i < (n : Int)) (hv : v = 0 ∨ v = 1) (k' : ax_Ex G mt d (pc + 1) ls st (mUI M k i.toNat v) o M') : ax_Ex G mt d pc ls (vI v :: vI i :: vR k :: st) M o M' :=
  x_zast hd hk hs (ax_tn' h0) (ax_tl h0 h1) hv k'
theorem x_bast2 {k n : Nat} {i v : Int} (hd : decode mt.2.1 pc = .ok (.bastore, 1)) (hk : ax_ex G M k) (hs : ax_sh M k = (33, n)) (h0 : 0 ≤ i) (h1 : i < (n : Int)) (hv : -128 ≤ v ∧ v < 128) (k' : ax_Ex G mt d (pc + 1) ls st (mUI M k i.toNat v) o M') : ax_Ex G mt d pc ls (vI v :: vI i :: vR k :: st) M o M' :=
  x_bast hd hk hs (ax_tn' h0) (ax_tl h0 h1) hv k'
theorem x_last2 {k n : Nat} {i : Int} {v : Int64} (hd : decode mt.2.1 pc = .ok (.lastore, 1)) (hk : ax_ex G M k) (hs : ax_sh M k = (35, n)) (h0 : 0 ≤ i) (h1 : i < (n : Int)) (k' : ax_Ex G mt d (pc + 1) ls st (mUJ M k i.toNat v) o M') : ax_Ex G mt d pc ls (vL v :: vI i :: vR k :: st) M o M' :=
  x_last hd hk hs (ax_tn' h0) (ax_tl h0 h1) k'
theorem x_aast2 {k n a : Nat} {i : Int} (hd : decode mt.2.1 pc = .ok (.aastore, 1)) (hk : ax_ex G M k) (hs : ax_sh M k = (36, n)) (h0 : 0 ≤ i) (h1 : i < (n : Int)) (ha : 10 ≤ a ∧ a < 52) (hv : ∀ j, axFR k j = none) (k' : ax_Ex G mt d (pc + 1) ls st (mUR M k i.toNat (some a)) o M') : ax_Ex G mt d pc ls (vR a :: vI i :: vR k :: st) M o M' :=
  x_aast hd hk hs (ax_tn' h0) (ax_tl h0 h1) ha (fun _ => hv _) k'
/-- out of a row of kinds: a kind, or null -/
theorem x_aaldS {k n a : Nat} {i : Int} (hd : decode mt.2.1 pc = .ok (.aaload, 1)) (hk : ax_ex G M k) (hs : ax_sh M k = (36, n)) (h0 : 0 ≤ i) (h1 : i < (n : Int)) (hq : mR M k i.toNat = some a) (hK : axKk k = true) (k' : (10 ≤ a ∧ a < 52) → ax_Ex G mt d (pc + 1) ls (vR a :: st) M o M') : ax_Ex G mt d pc ls (vI i :: vR k :: st) M o M' :=
  ax_know (fun g _ _ => x_aaldK hd hk hs (ax_tn' h0) (ax_tl h0 h1) (by rw [hq]; exact k' (g.2 k hK _ _ hq)))
theorem x_aaldN {k n : Nat} {i : Int} (hd : decode mt.2.1 pc = .ok (.aaload, 1)) (hk : ax_ex G M k) (hs : ax_sh M k = (36, n)) (h0 : 0 ≤ i) (h1 : i < (n : Int)) (hq : mR M k i.toNat = none) (k' : ax_Ex G mt d (pc + 1) ls (vN :: st) M o M') : ax_Ex G mt d pc ls (vI i :: vR k :: st) M o M' :=
  x_aaldK hd hk hs (ax_tn' h0) (ax_tl h0 h1) (by rw [hq]; exact k')
/-- the four rows of distances -/
theorem x_aaldD {i : Int} (hd : decode mt.2.1 pc = .ok (.aaload, 1)) (hG : gPh G 184 = true) (h0 : 0 ≤ i) (h1 : i < 4) (k' : ax_Ex G mt d (pc + 1) ls (vR (185 + i.toNat) :: st) M o M') : ax_Ex G mt d pc ls (vI i :: vR 184 :: st) M o M' := by
  have h2 : i.toNat < 4 := by omega
  refine x_aaldA (j := i.toNat) (n := 4) hd hG (axE' hG (by decide)) rfl (ax_tn' h0) h2 ?_ k'
  generalize i.toNat = j at h2
  rcases (show j = 0 ∨ j = 1 ∨ j = 2 ∨ j = 3 by omega) with rfl | rfl | rfl | rfl <;> rfl
/-- constants -/
def cA1 : List Int := [1, 0, -1, -1, 0, 1]
def cA2 : List Int := [0, 1, 1, 0, -1, -1]
def cA3 : List Int := [1, 0, -1, -1, 0, 1]
def cA4 : List Int := [0, 1, 1, 0, -1, -1]
def cA5 : List Int := [0, 0, 0, 0, 0, 0, 1, 2, 3, 4, 5, 0, 7, 9, 10, 8, 11, 12, 14, 26, 27, 19, 20, 0, 0, 0, 0, 0, 0, 15, 16, 17, 18, 21, 22, 23, 24, 25, 6, 0, 0, 13]
theorem ax_getD {vs : List Int} {j : Nat} (h : j < vs.length) : (vs.map vI)[j]? = some (vI (vs.getD j 0)) := by
  rw [List.getElem?_map, List.getD_eq_getElem?_getD, List.getElem?_eq_getElem h]
  rfl
theorem x_cald2 {k : Nat} {i : Int} (vs : List Int) (hd : decode mt.2.1 pc = .ok (.iaload, 1)) (hq : (k, FieldType.int, vs.map vI) ∈ axKa) (hin : ∀ j, ax_in (vs.getD j 0)) (h0 : 0 ≤ i) (h1 : i < (vs.length : Int)) (k' : ax_Ex G mt d (pc + 1) ls (vI (vs.getD i.toNat 0) :: st) M o M') : ax_Ex G mt d pc ls (vI i :: vR k :: st) M o M' :=
  x_cald hd hq (ax_tn' h0) (ax_getD (ax_tl h0 h1)) (hin _) k'
theorem cA_in {vs : List Int} (h : ∀ v ∈ vs, -2147483648 ≤ v ∧ v < 2147483648) : ∀ j, ax_in (vs.getD j 0) := by
  intro j
  rw [List.getD_eq_getElem?_getD]
  cases e : vs[j]? with
  | none => exact ax_in0
  | some v => exact h v (List.mem_of_getElem? e)
theorem cA1_in : ∀ j, ax_in (cA1.getD j 0) := cA_in (by decide)
theorem cA2_in : ∀ j, ax_in (cA2.getD j 0) := cA_in (by decide)
theorem cA3_in : ∀ j, ax_in (cA3.getD j 0) := cA_in (by decide)
theorem cA4_in : ∀ j, ax_in (cA4.getD j 0) := cA_in (by decide)
theorem cA5_in : ∀ j, ax_in (cA5.getD j 0) := cA_in (by decide)
theorem axKa_mem {n : Nat} {q : Nat × FieldType × List ax_V} (h : axKa[n]? = some q) : q ∈ axKa := List.mem_of_getElem? h
theorem cA1_K : (1, FieldType.int, cA1.map vI) ∈ axKa := axKa_mem (n := 0) rfl
theorem cA2_K : (2, FieldType.int, cA2.map vI) ∈ axKa := axKa_mem (n := 1) rfl
theorem cA3_K : (3, FieldType.int, cA3.map vI) ∈ axKa := axKa_mem (n := 2) rfl
theorem cA4_K : (4, FieldType.int, cA4.map vI) ∈ axKa := axKa_mem (n := 3) rfl
theorem cA5_K : (5, FieldType.int, cA5.map vI) ∈ axKa := axKa_mem (n := 4) rfl
theorem ax_kinds : ∀ n : Fin 42, ([vR 10, vR 11, vR 12, vR 13, vR 14, vR 15, vR 16, vR 17, vR 18, vR 19, vR 20, vR 21, vR 22, vR 23, vR 24, vR 25, vR 26, vR 27, vR 28, vR 29, vR 30, vR 31, vR 32, vR 33, vR 34, vR 35, vR 36, vR 37, vR 38, vR 39, vR 40, vR 41, vR 42, vR 43, vR 44, vR 45, vR 46, vR 47, vR 48, vR 49, vR 50, vR 51] : List ax_V)[(n : Nat)]? = some (vR (10 + (n : Nat))) := by decide +kernel
theorem x_kinds {i : Int} (hd : decode mt.2.1 pc = .ok (.aaload, 1)) (h0 : 0 ≤ i) (h1 : i < 42) (k' : ax_Ex G mt d (pc + 1) ls (vR (10 + i.toNat) :: st) M o M') : ax_Ex G mt d pc ls (vI i :: vR 6 :: st) M o M' :=
  x_caald (C0 := "HexPond$Kind") hd (axKa_mem (n := 5) rfl) (ax_tn' h0) (ax_kinds ⟨i.toNat, by omega⟩) k'
theorem ax_words : ∀ n : Fin 23, ([vR 60, vR 61, vR 62, vR 63, vR 64, vR 65, vR 66, vR 67, vR 68, vR 69, vR 70, vR 71, vR 72, vR 73, vR 74, vR 75, vR 76, vR 77, vR 78, vR 79, vR 80, vR 81, vR 82] : List ax_V)[(n : Nat)]? = some (vR (60 + (n : Nat))) := by decide +kernel
theorem x_words {i : Int} (hd : decode mt.2.1 pc = .ok (.aaload, 1)) (h0 : 0 ≤ i) (h1 : i < 23) (k' : ax_Ex G mt d (pc + 1) ls (vR (60 + i.toNat) :: st) M o M') : ax_Ex G mt d pc ls (vI i :: vR 7 :: st) M o M' :=
  x_caald (C0 := "java/lang/String") hd (axKa_mem (n := 6) rfl) (ax_tn' h0) (ax_words ⟨i.toNat, by omega⟩) k'
/-- the texts of the kinds of tokens, by the number of their bytes' row -/
def cTx : List (List Int) := [[112, 111, 110, 100], [98, 121], [115, 116, 111, 110, 101], [112, 108, 97, 110], [114, 101, 100], [98, 108, 117, 101], [119, 105, 110], [103, 117, 97, 114, 100], [115, 97, 118, 101], [110, 101, 97, 114], [97, 116], [119, 104, 101, 110], [116, 117, 114, 110], [115, 116, 111, 110, 101, 115], [98, 114, 105, 100, 103, 101, 115], [102, 114, 101, 101], [110, 101, 101, 100, 115], [119, 111, 110], [110, 111, 116], [97, 110, 100], [111, 114], [109, 105, 110], [109, 97, 120], [40], [41], [91], [93], [59], [44], [43], [45], [42], [47], [60], [62], [61], [60, 61], [62, 61], [], [], [], []]
def cTb (b : Nat) : List Int := cTx.getD (b - 102) []
def cKa (n : Nat) : Nat × FieldType × List ax_V := (n + 102, FieldType.byte, (cTb (n + 102)).map vI)
theorem axKa_drop : axKa.drop 7 = (List.range 42).map cKa := rfl
theorem cTb_K {b : Nat} (h : 102 ≤ b ∧ b < 144) : (b, FieldType.byte, (cTb b).map vI) ∈ axKa := by
  refine List.mem_of_mem_drop (i := 7) ?_
  rw [axKa_drop]
  refine List.mem_map.mpr ⟨b - 102, List.mem_range.mpr (by omega), ?_⟩
  have e : b - 102 + 102 = b := by omega
  unfold cKa
  rw [e]
theorem cTb_in {b : Nat} : ∀ j, ax_in ((cTb b).getD j 0) := by
  have h1 : ∀ l ∈ cTx, ∀ v ∈ l, -2147483648 ≤ v ∧ v < 2147483648 := by decide
  refine cA_in (fun v hv => ?_)
  unfold cTb at hv
  rw [List.getD_eq_getElem?_getD] at hv
  cases e : cTx[b - 102]? with
  | none => rw [e] at hv; cases hv
  | some l => rw [e] at hv; exact h1 l (List.mem_of_getElem? e) v hv
theorem x_cbald2 {b : Nat} {i : Int} (hd : decode mt.2.1 pc = .ok (.baload, 1)) (hb : 102 ≤ b ∧ b < 144) (h0 : 0 ≤ i) (h1 : i < ((cTb b).length : Int)) (k' : ax_Ex G mt d (pc + 1) ls (vI ((cTb b).getD i.toNat 0) :: st) M o M') : ax_Ex G mt d pc ls (vI i :: vR b :: st) M o M' :=
  x_cbald hd (cTb_K hb) (ax_tn' h0) (ax_getD (ax_tl h0 h1)) (cTb_in _) k'
theorem cTb_len {b : Nat} : (cTb b).length < 10 := by
  have h1 : ∀ l ∈ cTx, l.length < 10 := by decide
  unfold cTb
  rw [List.getD_eq_getElem?_getD]
  cases e : cTx[b - 102]? with
  | none => exact (by decide : 0 < 10)
  | some l => exact h1 l (List.mem_of_getElem? e)
theorem x_cblen {b : Nat} (hd : decode mt.2.1 pc = .ok (.arraylength, 1)) (hb : 102 ≤ b ∧ b < 144) (k' : ax_Ex G mt d (pc + 1) ls (vI ((cTb b).length : Int) :: st) M o M') : ax_Ex G mt d pc ls (vR b :: st) M o M' :=
  x_clen hd (cTb_K hb) (by rw [List.length_map]) (by have := @cTb_len b; omega) k'
theorem axKf_mem {n : Nat} {q : Nat × String × String × String × ax_V} (h : axKf[n]? = some q) : q ∈ axKf := List.mem_of_getElem? h
def cKf (n : Nat) : List (Nat × String × String × String × ax_V) := [(n + 10, "java/lang/Enum", "ordinal", "I", vI ((n : Nat) : Int)), (n + 10, "HexPond$Kind", "text", "Ljava/lang/String;", vR (n + 60)), (n + 60, "java/lang/String", "value", "[B", vR (n + 102)), (n + 60, "java/lang/String", "coder", "B", vI 0)]
set_option maxRecDepth 100000 in
theorem axKf_flat : axKf = (List.range 42).flatMap cKf := rfl
theorem axKf_in {n : Nat} (h : n < 42) {q : Nat × String × String × String × ax_V} (hq : q ∈ cKf n) : q ∈ axKf := by
  rw [axKf_flat]
  exact List.mem_flatMap.mpr ⟨n, List.mem_range.mpr h, hq⟩
theorem axKf_ord {a : Nat} (h : 10 ≤ a ∧ a < 52) : (a, "java/lang/Enum", "ordinal", "I", vI ((a - 10 : Nat) : Int)) ∈ axKf := by
  have h1 := axKf_in (n := a - 10) (by omega) (q := (a - 10 + 10, "java/lang/Enum", "ordinal", "I", vI ((a - 10 : Nat) : Int))) List.mem_cons_self
  rwa [show a - 10 + 10 = a by omega] at h1
theorem axKf_text {a : Nat} (h : 10 ≤ a ∧ a < 52) : (a, "HexPond$Kind", "text", "Ljava/lang/String;", vR (a + 50)) ∈ axKf := by
  have h1 := axKf_in (n := a - 10) (by omega) (q := (a - 10 + 10, "HexPond$Kind", "text", "Ljava/lang/String;", vR (a - 10 + 60))) (List.mem_cons_of_mem _ List.mem_cons_self)
  rwa [show a - 10 + 10 = a by omega, show a - 10 + 60 = a + 50 by omega] at h1
theorem axKf_val {a : Nat} (h : 60 ≤ a ∧ a < 102) : (a, "java/lang/String", "value", "[B", vR (a + 42)) ∈ axKf := by
  have h1 := axKf_in (n := a - 60) (by omega) (q := (a - 60 + 60, "java/lang/String", "value", "[B", vR (a - 60 + 102))) (List.mem_cons_of_mem _ (List.mem_cons_of_mem _ List.mem_cons_self))
  rwa [show a - 60 + 60 = a by omega, show a - 60 + 102 = a + 42 by omega] at h1
theorem axKf_cod {a : Nat} (h : 60 ≤ a ∧ a < 102) : (a, "java/lang/String", "coder", "B", vI 0) ∈ axKf := by
  have h1 := axKf_in (n := a - 60) (by omega) (q := (a - 60 + 60, "java/lang/String", "coder", "B", vI 0)) (List.mem_cons_of_mem _ (List.mem_cons_of_mem _ (List.mem_cons_of_mem _ List.mem_cons_self)))
  rwa [show a - 60 + 60 = a by omega] at h1
theorem axKc_str {a : Nat} (h : 60 ≤ a ∧ a < 102) : (a, "java/lang/String") ∈ axKc := by
  have h1 : ∀ n : Fin 42, axKc[(n : Nat) + 42]? = some ((n : Nat) + 60, "java/lang/String") := by decide +kernel
  have h2 := h1 ⟨a - 60, by omega⟩
  have e : a - 60 + 60 = a := by omega
  simp only at h2
  rw [e] at h2
  exact List.mem_of_getElem? h2
/-- what wraps around -/
def iand (x y : Int) : Int := (Int32.ofInt x &&& Int32.ofInt y).toInt
def ior (x y : Int) : Int := (Int32.ofInt x ||| Int32.ofInt y).toInt
def ixor (x y : Int) : Int := (Int32.ofInt x ^^^ Int32.ofInt y).toInt
def ishr (x y : Int) : Int := (Int32.ofInt x >>> (Int32.ofInt y &&& 31)).toInt
def iushr (x y : Int) : Int := ((Int32.ofInt x).toUInt32 >>> ((Int32.ofInt y).toUInt32 &&& Int32.toUInt32 31)).toInt32.toInt
def ibyte (x : Int) : Int := (Int32.ofInt x).toInt8.toInt32.toInt
def ichar (x : Int) : Int := ((Int32.ofInt x).toUInt32 % 65536).toInt32.toInt
def il (x : Int) : Int64 := (Int32.ofInt x).toInt64
def idl (x : Int) : UInt64 := FP.i2d (Int32.ofInt x)
def ilc (x y : Int64) : Int := (lg_cmp x y).toInt
def idc (x y : UInt64) (op : CmpOp) : Int := (Op.cmpValue (FP.dcmp x y) op).toInt
theorem ibyte_in (x : Int) : -128 ≤ ibyte x ∧ ibyte x < 128 := by
  unfold ibyte
  rw [Int8.toInt_toInt32]
  have h1 := (Int32.ofInt x).toInt8.le_toInt
  have h2 := (Int32.ofInt x).toInt8.toInt_lt
  omega
theorem ichar_in (x : Int) : 0 ≤ ichar x ∧ ichar x < 65536 := by
  unfold ichar
  rw [pk_char]
  have h : (Int32.ofInt x).toBitVec.toNat % 65536 < 65536 := Nat.mod_lt _ (by decide)
  have h2 := nI_toInt (n := (Int32.ofInt x).toBitVec.toNat % 65536) (by omega)
  rw [h2]
  omega
theorem x_iincw {i : Nat} {n a : Int} {ls' : List (Option ax_V)} (hd : decode mt.2.1 pc = .ok (.iinc i a, 3)) (hi : ls[i]? = some (some (vI n))) (hn : i < mt.2.2.1) (hc : ax_c1 ls i = true) (hl : ls.set i (some (vI (wr (n + a)))) = ls') (k : ax_Ex G mt d (pc + 3) ls' st M o M') : ax_Ex G mt d pc ls st M o M' :=
  ax_pure (fun hs hl2 _ => ⟨hs, hl ▸ ax_oL_set hl2 (ax_okI (wr_in _))⟩) (fun C _ _ _ hL _ _ _ k => by
    obtain ⟨q, hq⟩ := ax_lpk (G := G) hi
    exact lv_iinc (v := Int32.ofInt (wr (n + a))) C.1 C.2.1 hd hL hq (by rw [ax_wr, Int32.ofInt_add]) hn rfl (fun lc' h => k lc' (hl ▸ ax_has_sub h (ax_st1 (G := G) (v := vI (wr (n + a))) hc)))) k
/-- returns -/
theorem x_retV (hd : decode mt.2.1 pc = .ok (.return_, 1)) : ax_Ex G mt d pc ls [] M (.inl none) M := x_ret (ov := none) hd
theorem x_retI {n : Int} (hd : decode mt.2.1 pc = .ok (.ireturn, 1)) : ax_Ex G mt d pc ls [vI n] M (.inl (some (vI n))) M := x_ret (ov := some (vI n)) hd
theorem x_retR {n : Nat} (hd : decode mt.2.1 pc = .ok (.areturn, 1)) : ax_Ex G mt d pc ls [vR n] M (.inl (some (vR n))) M := x_ret (ov := some (vR n)) hd
theorem x_retJ {n : Int64} (hd : decode mt.2.1 pc = .ok (.lreturn, 1)) : ax_Ex G mt d pc ls [vL n] M (.inl (some (vL n))) M := x_ret (ov := some (vL n)) hd
theorem x_retD {n : UInt64} (hd : decode mt.2.1 pc = .ok (.dreturn, 1)) : ax_Ex G mt d pc ls [vD n] M (.inl (some (vD n))) M := x_ret (ov := some (vD n)) hd
/-- outcomes of what may throw -/
def oSI (o : Int ⊕ String) : Option ax_V ⊕ String := match o with | .inl r => .inl (some (vI r)) | .inr E => .inr E
def oSV (o : Unit ⊕ String) : Option ax_V ⊕ String := match o with | .inl _ => .inl none | .inr E => .inr E
/-- loops -/
def lp {σ ρ : Type} (b : σ → Option (σ ⊕ ρ)) : Nat → σ → Option ρ
  | 0, _ => none
  | n + 1, s => match b s with
    | none => none
    | some (.inl s') => lp b n s'
    | some (.inr r) => some r
def lpN : Nat := 1000000
theorem lp_ex {σ ρ : Type} {b : σ → Option (σ ⊕ ρ)} {P : σ → Prop} {K : ρ → Prop} (hb : ∀ s y, b s = some y → (∀ s', y = .inl s' → P s') → (∀ r, y = .inr r → K r) → P s) : ∀ (n : Nat) (s : σ) (r : ρ), lp b n s = some r → K r → P s
  | 0, _, _, h, _ => by cases h
  | n + 1, s, r, h, hk => by
    simp only [lp] at h
    cases e : b s with
    | none => rw [e] at h; cases h
    | some y =>
      rw [e] at h
      rcases y with s' | r'
      · exact hb s _ e (fun s'' e2 => by cases e2; exact lp_ex hb n s' r h hk) (fun r e2 => by cases e2)
      · cases h
        exact hb s _ e (fun s'' e2 => by cases e2) (fun r e2 => by cases e2; exact hk)
/-- one thing behind another -/
def bd1 {α β : Type} (x : Option α) (f : α → Option β) : Option β := match x with | none => none | some a => f a
def bd2 {α β γ : Type} (x : Option (α × β)) (f : α → β → Option γ) : Option γ := match x with | none => none | some (a, b) => f a b
def bdS {α β γ : Type} (x : Option (α ⊕ β)) (f : α → Option γ) (g : β → Option γ) : Option γ := match x with | none => none | some (.inl a) => f a | some (.inr b) => g b
def bdT {α β : Type} (x : Option ((α ⊕ String) × ax_M)) (f : α → ax_M → Option ((β ⊕ String) × ax_M)) : Option ((β ⊕ String) × ax_M) := match x with | none => none | some (.inl a, M) => f a M | some (.inr E, M) => some (.inr E, M)
def bdC {α γ : Type} (x : Option ((α ⊕ String) × ax_M)) (f : α → ax_M → Option γ) (g : String → ax_M → Option γ) : Option γ := match x with | none => none | some (.inl a, M) => f a M | some (.inr E, M) => g E M
def oq {β : Type} (q : Option Nat) (a : β) (f : Nat → β) : β := match q with | none => a | some k => f k
theorem bd1_some {α β : Type} {x : Option α} {f : α → Option β} {b : β} (h : bd1 x f = some b) : ∃ a, x = some a ∧ f a = some b := by
  cases x with
  | none => cases h
  | some a => exact ⟨a, rfl, h⟩
theorem bd2_some {α β γ : Type} {x : Option (α × β)} {f : α → β → Option γ} {c : γ} (h : bd2 x f = some c) : ∃ a b, x = some (a, b) ∧ f a b = some c := by
  cases x with
  | none => cases h
  | some a => exact ⟨a.1, a.2, rfl, h⟩
theorem bdS_some {α β γ : Type} {x : Option (α ⊕ β)} {f : α → Option γ} {g : β → Option γ} {c : γ} (h : bdS x f g = some c) : (∃ a, x = some (.inl a) ∧ f a = some c) ∨ (∃ b, x = some (.inr b) ∧ g b = some c) := by
  cases x with
  | none => cases h
  | some a => cases a with
    | inl a => exact Or.inl ⟨a, rfl, h⟩
    | inr b => exact Or.inr ⟨b, rfl, h⟩
theorem bdT_some {α β : Type} {x : Option ((α ⊕ String) × ax_M)} {f : α → ax_M → Option ((β ⊕ String) × ax_M)} {c : β ⊕ String} {M2 : ax_M} (h : bdT x f = some (c, M2)) : (∃ a M1, x = some (.inl a, M1) ∧ f a M1 = some (c, M2)) ∨ (∃ E, x = some (.inr E, M2) ∧ c = .inr E) := by
  cases x with
  | none => cases h
  | some q =>
    obtain ⟨q1, M1⟩ := q
    cases q1 with
    | inl a => exact Or.inl ⟨a, M1, rfl, h⟩
    | inr E => cases h; exact Or.inr ⟨E, rfl, rfl⟩
theorem bdC_some {α γ : Type} {x : Option ((α ⊕ String) × ax_M)} {f : α → ax_M → Option γ} {g : String → ax_M → Option γ} {c : γ} (h : bdC x f g = some c) : (∃ a M1, x = some (.inl a, M1) ∧ f a M1 = some c) ∨ (∃ E M1, x = some (.inr E, M1) ∧ g E M1 = some c) := by
  cases x with
  | none => cases h
  | some q =>
    obtain ⟨q1, M1⟩ := q
    cases q1 with
    | inl a => exact Or.inl ⟨a, M1, rfl, h⟩
    | inr E => exact Or.inr ⟨E, M1, rfl, h⟩
theorem oq_none {β : Type} {q : Option Nat} {a : β} {f : Nat → β} (h : q = none) : oq q a f = a := by rw [h]; rfl
theorem oq_some {β : Type} {q : Option Nat} {a : β} {f : Nat → β} {k : Nat} (h : q = some k) : oq q a f = f k := by rw [h]; rfl
/-- calls -/
theorem x_cr {vs : List ax_V} {n k : Nat} {v : ax_V} {stk : List ax_V} (hst : vs.reverse ++ rest = stk) (h1 : 1 ≤ d) (ca : ax_Ca G mt mt' (d - 1) pc vs rest M (.inl (some v)) M1) (K : ax_Kn mt' n) (hlen : (ax_args vs).length + k = mt'.2.2.1) (hrt : ax_rt mt'.2.2.2.1 (some v))
    (h : ax_Ex G mt' (d - 1) 0 (ax_args vs ++ List.replicate k none) [] M (.inl (some v)) M1) (k' : ax_Ex G mt d (pc + 3) ls (v :: rest) M1 o M') : ax_Ex G mt d pc ls stk M o M' := by
  obtain ⟨d, rfl⟩ : ∃ d', d = d' + 1 := ⟨d - 1, by omega⟩
  rw [← hst]
  exact x_call ca K hlen hrt h k'
theorem x_cv {vs : List ax_V} {n k : Nat} {stk : List ax_V} (hst : vs.reverse ++ rest = stk) (h1 : 1 ≤ d) (ca : ax_Ca G mt mt' (d - 1) pc vs rest M (.inl none) M1) (K : ax_Kn mt' n) (hlen : (ax_args vs).length + k = mt'.2.2.1) (hrt : ax_rt mt'.2.2.2.1 none)
    (h : ax_Ex G mt' (d - 1) 0 (ax_args vs ++ List.replicate k none) [] M (.inl none) M1) (k' : ax_Ex G mt d (pc + 3) ls rest M1 o M') : ax_Ex G mt d pc ls stk M o M' := by
  obtain ⟨d, rfl⟩ : ∃ d', d = d' + 1 := ⟨d - 1, by omega⟩
  rw [← hst]
  exact x_call ca K hlen hrt h k'
theorem x_ct {vs : List ax_V} {n k : Nat} {E : String} {stk : List ax_V} (hst : vs.reverse ++ rest = stk) (h1 : 1 ≤ d) (ca : ax_Ca G mt mt' (d - 1) pc vs rest M (.inr E) M1) (K : ax_Kn mt' n) (hlen : (ax_args vs).length + k = mt'.2.2.1) (hno : mt.2.2.2.2 = [])
    (h : ax_Ex G mt' (d - 1) 0 (ax_args vs ++ List.replicate k none) [] M (.inr E) M1) : ax_Ex G mt d pc ls stk M (.inr E) M1 := by
  obtain ⟨d, rfl⟩ : ∃ d', d = d' + 1 := ⟨d - 1, by omega⟩
  rw [← hst]
  exact x_thru ca K hlen hno h
/-- fewer locals are told of -/
def ax_le : List (Option ax_V) → List (Option ax_V) → Prop
  | [], [] => True
  | none :: a, _ :: b => ax_le a b
  | some v :: a, some w :: b => v = w ∧ ax_le a b
  | _, _ => False
theorem axD : ax_le [] [] := trivial
theorem axN' {x : Option ax_V} {a b : List (Option ax_V)} (h : ax_le a b) : ax_le (none :: a) (x :: b) := h
theorem axS' {v : ax_V} {a b : List (Option ax_V)} (h : ax_le a b) : ax_le (some v :: a) (some v :: b) := ⟨rfl, h⟩
theorem ax_le_get : ∀ {a b : List (Option ax_V)}, ax_le a b → ∀ (i : Nat) (v : ax_V), a[i]? = some (some v) → b[i]? = some (some v)
  | [], [], _, i, v, h => by simp at h
  | [], _ :: _, h, _, _, _ => h.elim
  | none :: a, x :: b, h, i, v, e => by
    cases i with
    | zero => simp at e
    | succ i => simpa using ax_le_get (a := a) (b := b) h i v (by simpa using e)
  | none :: _, [], h, _, _, _ => h.elim
  | some w :: a, some w' :: b, h, i, v, e => by
    obtain ⟨rfl, h⟩ := h
    cases i with
    | zero => simpa using e
    | succ i => simpa using ax_le_get (a := a) (b := b) h i v (by simpa using e)
  | some _ :: _, none :: _, h, _, _, _ => h.elim
  | some _ :: _, [], h, _, _, _ => h.elim
theorem x_fgt {ls' : List (Option ax_V)} (h : ax_le ls' ls) (k : ax_Ex G mt d pc ls' st M o M') : ax_Ex G mt d pc ls st M o M' := by
  intro g hos hol
  have hsub : ∀ i v, ls'[i]? = some (some v) → ls[i]? = some (some v) := ax_le_get h
  obtain ⟨k1, k2⟩ := k g hos (fun v hv => by
    obtain ⟨i, hi⟩ := List.getElem?_of_mem hv
    exact hol v (List.mem_of_getElem? (hsub i v hi)))
  refine ⟨k1, fun p e R s m args below meth c Q n1 n2 H locs cells slots lc C KS h0 hd' hl hc hs e1 e2 hR hS hL hF => k2 p e R s m args below meth c Q n1 n2 H locs cells slots lc C KS h0 hd' hl hc hs e1 e2 hR hS ?_ hF⟩
  refine ax_has_sub hL (fun q hq => ?_)
  obtain ⟨i, w⟩ := q
  obtain ⟨j, v, e3, e4, e5⟩ := (ax_lp_mem ls' 0 i w).mp hq
  exact (ax_lp_mem ls 0 i w).mpr ⟨j, v, e3, hsub j v e4, e5⟩
/-- a static of the library's own, of which nothing is known -/
theorem x_getsB {idx : Nat} (hd : decode mt.2.1 pc = .ok (.getstatic idx, 3)) (hl : Cond.fieldLink mt.1.cls idx "jdk/internal/util/Preconditions" "SIOOBE_FORMATTER" "Ljava/util/function/BiFunction;" ∈ ax_W)
    (k' : ∀ q : Option Nat, ax_Ex G mt d (pc + 3) ls (vQ q :: st) M o M') : ax_Ex G mt d pc ls st M o M' := by
  intro g hos hol
  have hk := fun q => k' q g (ax_oS_cons ax_okR hos) hol
  refine ⟨(hk none).1, fun p e R s m args below meth c Q n1 n2 H locs cells slots lc C KS h0 hd' hl' hc hs e1 e2 hR hS hL hF => ?_⟩
  obtain ⟨q, hq⟩ := KS.2.2.2.2.2.2.2.2.2.2.2.2.2.2
  exact va_gets C.1 C.2.1 hq hS C.2.2.2.2.2.1 (C.2.2.2.2.2.2.1 _ hl) (fun _ h => h) hd ((hk q).2 p e R s m args below meth c Q n1 n2 H locs cells slots lc C KS h0 hd' hl' hc hs e1 e2 hR hS hL hF)
theorem axS_mem {n : Nat} {q : String × String × String × ax_V} (h : axS[n]? = some q) : q ∈ axS := List.mem_of_getElem? h
/-- the four rows of distances -/
theorem axDi_sh {k : Nat} (h : 185 ≤ k ∧ k < 189) : ax_sh M k = (32, 81) := by
  rcases (show k = 185 ∨ k = 186 ∨ k = 187 ∨ k = 188 by omega) with rfl | rfl | rfl | rfl <;> rfl
theorem axDi_ex {k : Nat} (hG : axPs G 150 244) (h : 185 ≤ k ∧ k < 189) : ax_ex G M k := axE' (hG k (by omega) (by omega)) (by omega)
/-- a row of ints is filled -/
def mFi (M : ax_M) (k n : Nat) (v : Int) : ax_M := (fun a b => if a = k ∧ b < n then v else mI M a b, M.2)
end AXR2
