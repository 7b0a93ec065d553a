/-! walks: the constructors -/
def mMu (M : ax_M) : ax_M := mUR (mUR (mUR (mUR (mAl (mAl (mAl (mAl (mAl M 37 4 4) 32 81 81) 32 81 81) 32 81 81) 32 81 81) (axC + mSz M) 0 (some (axC + mSz M + 1))) (axC + mSz M) 1 (some (axC + mSz M + 2))) (axC + mSz M) 2 (some (axC + mSz M + 3))) (axC + mSz M) 3 (some (axC + mSz M + 4))

theorem WA_byte : Cond.arrayClass .byte ∈ ax_W := ax_tw (ax_t1 (List.mem_of_getElem? (i := 51) (by decide +kernel))) rfl
theorem WA_boolean : Cond.arrayClass .boolean ∈ ax_W := ax_tw (ax_t7 (List.mem_of_getElem? (i := 117) (by decide +kernel))) rfl
theorem WA_long : Cond.arrayClass .long ∈ ax_W := ax_tw (ax_t9 (List.mem_of_getElem? (i := 136) (by decide +kernel))) rfl
theorem WA_kind : Cond.arrayOver (.object "HexPond$Kind") ∈ axNw := ax_tn (ax_t1 (List.mem_of_getElem? (i := 59) (by decide +kernel))) rfl
theorem WA_rows : Cond.arrayOver (.array .int) ∈ axNw := ax_tn (ax_t2 (List.mem_of_getElem? (i := 26) (by decide +kernel))) rfl
section AXCT
variable {G : ax_G} {mt : ax_T} {d pc : Nat} {ls : List (Option ax_V)} {st : List ax_V} {M M' : ax_M} {o : Option ax_V ⊕ String} {t c K N idx : Nat}
theorem x_newC (hz : mSz M = c) (hK : 150 + c = K) (hd : decode mt.2.1 pc = .ok (.new idx, 3)) (ht : t < 13) (hs : axF.getD c (0, 0) = (t, axN t)) (hl : Cond.classLink mt.1.cls idx (axR t) ∈ ax_W) (hins : Cond.instantiable (axR t) (axN t) ∈ ax_W) (hini : Cond.initialized (axR t) ∈ ax_W)
    (k : ax_Ex G mt d (pc + 3) ls (vR K :: st) (mAl M t (axN t) (axN t)) o M') : ax_Ex G mt d pc ls st M o M' :=
  x_new hd ht (fun _ => hz ▸ hs) hl hins hini (by rw [hz]; show ax_Ex G mt d (pc + 3) ls (vR (150 + c) :: st) _ o M'; rw [hK]; exact k)
theorem x_newCI (hz : mSz M = c) (hK : 150 + c = K) (hd : decode mt.2.1 pc = .ok (.newarray .int, 2)) (hN : N ≤ 100000) (hs : axF.getD c (0, 0) = (32, N)) (harr : Cond.arrayClass .int ∈ ax_W)
    (k : ax_Ex G mt d (pc + 2) ls (vR K :: st) (mAl M 32 N N) o M') : ax_Ex G mt d pc ls (vI (N : Int) :: st) M o M' :=
  x_newI hd hN (fun _ => hz ▸ hs) harr (by rw [hz]; show ax_Ex G mt d (pc + 2) ls (vR (150 + c) :: st) _ o M'; rw [hK]; exact k)
theorem x_newCB (hz : mSz M = c) (hK : 150 + c = K) (hd : decode mt.2.1 pc = .ok (.newarray .byte, 2)) (hN : N ≤ 100000) (hs : axF.getD c (0, 0) = (33, N)) (harr : Cond.arrayClass .byte ∈ ax_W)
    (k : ax_Ex G mt d (pc + 2) ls (vR K :: st) (mAl M 33 N N) o M') : ax_Ex G mt d pc ls (vI (N : Int) :: st) M o M' :=
  x_newB hd hN (fun _ => hz ▸ hs) harr (by rw [hz]; show ax_Ex G mt d (pc + 2) ls (vR (150 + c) :: st) _ o M'; rw [hK]; exact k)
theorem x_newCZ (hz : mSz M = c) (hK : 150 + c = K) (hd : decode mt.2.1 pc = .ok (.newarray .boolean, 2)) (hN : N ≤ 100000) (hs : axF.getD c (0, 0) = (34, N)) (harr : Cond.arrayClass .boolean ∈ ax_W)
    (k : ax_Ex G mt d (pc + 2) ls (vR K :: st) (mAl M 34 N N) o M') : ax_Ex G mt d pc ls (vI (N : Int) :: st) M o M' :=
  x_newZ hd hN (fun _ => hz ▸ hs) harr (by rw [hz]; show ax_Ex G mt d (pc + 2) ls (vR (150 + c) :: st) _ o M'; rw [hK]; exact k)
theorem x_newCJ (hz : mSz M = c) (hK : 150 + c = K) (hd : decode mt.2.1 pc = .ok (.newarray .long, 2)) (hN : N ≤ 100000) (hs : axF.getD c (0, 0) = (35, N)) (harr : Cond.arrayClass .long ∈ ax_W)
    (k : ax_Ex G mt d (pc + 2) ls (vR K :: st) (mAl M 35 N N) o M') : ax_Ex G mt d pc ls (vI (N : Int) :: st) M o M' :=
  x_newJ hd hN (fun _ => hz ▸ hs) harr (by rw [hz]; show ax_Ex G mt d (pc + 2) ls (vR (150 + c) :: st) _ o M'; rw [hK]; exact k)
theorem x_newCK (hz : mSz M = c) (hK : 150 + c = K) (hd : decode mt.2.1 pc = .ok (.anewarray idx, 3)) (hN : N ≤ 100000) (hs : axF.getD c (0, 0) = (36, N)) (hl : Cond.classLink mt.1.cls idx "HexPond$Kind" ∈ ax_W) (hover : Cond.arrayOver (.object "HexPond$Kind") ∈ axNw)
    (k : ax_Ex G mt d (pc + 3) ls (vR K :: st) (mAl M 36 N N) o M') : ax_Ex G mt d pc ls (vI (N : Int) :: st) M o M' :=
  x_newK hd hN (fun _ => hz ▸ hs) hl hover (by rw [hz]; show ax_Ex G mt d (pc + 3) ls (vR (150 + c) :: st) _ o M'; rw [hK]; exact k)
/-- do the references of these cells stand? -/
def ax_frz (M : ax_M) (a b : Nat) : Bool := Nat.ble 150 a && Nat.ble b (150 + mSz M) && (List.range (b - a)).all (fun i => (List.range 30).all (fun j => match axFR (a + i) j with | none => true | some r => decide (mR M (a + i) j = some r)))
def axPb (G : ax_G) (a b : Nat) : Nat → Bool := fun k => gPh G k || (Nat.ble a k && Nat.ble (k + 1) b)
theorem axPb_self (G : ax_G) (a b : Nat) : axPs (axPh G (axPb G a b)) a b := fun k h1 h2 => by
  show axPb G a b k = true
  unfold axPb
  rw [Nat.ble_eq_true_of_le h1, Nat.ble_eq_true_of_le h2, Bool.and_self, Bool.or_true]
theorem axFR_30 : ∀ k j r, axFR k j = some r → j < 30 := by
  intro k j r h
  unfold axFR at h
  have hl : ∀ l ∈ axFRt, l.length ≤ 30 := by decide +kernel
  cases e : axFRt[k - axC]? with
  | none => rw [e] at h; simp at h
  | some l =>
    rw [e] at h
    have h1 := hl l (List.mem_of_getElem? e)
    rcases Nat.lt_or_ge j l.length with h2 | h2
    · omega
    · exfalso
      simp only [Option.getD_some, List.getD_eq_getElem?_getD, List.getElem?_eq_none h2, Option.getD_none] at h
      cases h
theorem x_phaseC {a b : Nat} (hc : ax_frz M a b = true) (k : ax_Ex (axPh G (axPb G a b)) mt d pc ls st M o M') : ax_Ex G mt d pc ls st M o M' := by
  refine x_phase (P := axPb G a b) (fun k h => by show (gPh G k || _) = true; rw [h]; rfl) (fun k h => ?_) k
  rcases Bool.or_eq_true_iff.mp h with h | h
  · exact Or.inl h
  · right
    obtain ⟨h1, h2⟩ := Bool.and_eq_true_iff.mp h
    have h1 := Nat.le_of_ble_eq_true h1
    have h2 := Nat.le_of_ble_eq_true h2
    obtain ⟨h3, h4⟩ := Bool.and_eq_true_iff.mp hc
    obtain ⟨h5, h6⟩ := Bool.and_eq_true_iff.mp h3
    have h5 := Nat.le_of_ble_eq_true h5
    have h6 := Nat.le_of_ble_eq_true h6
    refine ⟨by show 150 ≤ k; omega, by show k < 150 + mSz M; omega, fun j r e => ?_⟩
    have h7 := List.all_eq_true.mp (List.all_eq_true.mp h4 (k - a) (List.mem_range.mpr (by omega))) j (List.mem_range.mpr (axFR_30 k j r e))
    rw [show a + (k - a) = k by omega, e] at h7
    exact of_decide_eq_true h7
/-- the row of the array of arrays, shown in the last part -/
def ax_Mul : Prop := ∀ {G : ax_G} {mt : ax_T} {d pc : Nat} {ls : List (Option ax_V)} {st : List ax_V} {M M' : ax_M} {o : Option ax_V ⊕ String} {idx : Nat}, decode mt.2.1 pc = .ok (.multianewarray idx 2, 4) → mSz M = 34 → Cond.classLink mt.1.cls idx "[[I" ∈ ax_W → Cond.arrayOver (.array .int) ∈ axNw → Cond.arrayClass .int ∈ ax_W → (∀ k, gPh G k = false) →
    ax_Ex G mt d (pc + 4) ls (vR 184 :: st) (mMu M) o M' → ax_Ex G mt d pc ls (vI 81 :: vI 4 :: st) M o M'
end AXCT
/- ('HexPond$Tape', '<init>', '()V') of 151 -/
def fX9_init (M : ax_M) : Option ax_M :=
  (some (mUR (mAl M 33 2000 2000) 151 0 (some 152)))
set_option maxRecDepth 20000 in
theorem T_X9_init {G : ax_G} {d : Nat} (hd : 1 ≤ d) (hN : ∀ k, gPh G k = false) (hmu : ax_Mul) {M : ax_M} (hz : mSz M = 2) {M1 : ax_M} (hf : fX9_init M = some M1) : ax_Ex G tX9_init d 0 (ax_args [vR 151] ++ List.replicate 0 none) [] M (.inl none) M1 := by
  show ax_Ex G tX9_init d 0 [some (vR 151)] [] M _ _
  unfold fX9_init at hf
  refine x_aload_n (pc := 0) dX9_init_0 rfl ?_
  refine x_objInit (pc := 1) dX9_init_1 WM_X9_3 WI_Object WK_Object (Nat.le_of_ble_eq_true rfl) (by omega) ?_
  refine x_aload_n (pc := 4) dX9_init_4 rfl ?_
  refine x_sipush (pc := 5) dX9_init_5 (by decide) ⟨by decide, by decide⟩ ?_
  refine x_newCB (N := 2000) (c := 2) (K := 152) (by show mSz M = 2; omega) rfl (pc := 8) dX9_init_8 (by decide) rfl WA_byte ?_
  refine x_putRF (t := 7) (j := 0) (pc := 10) dX9_init_10 ⟨Nat.le_of_ble_eq_true rfl, Or.inl (by show 151 < 150 + (mSz M + 1); omega)⟩ rfl (by decide) (by decide) rfl (Or.inr ⟨_, rfl⟩) rfl rfl rfl WF_X9_9 (hN _) rfl ?_
  cases hf
  exact x_retV (pc := 13) dX9_init_13
/- ('HexPond$Tokens', '<init>', '()V') of 153 -/
def fX10_init (M : ax_M) : Option ax_M :=
  (some (mUR (mAl (mUR (mAl (mUR (mAl M 36 401 401) 153 0 (some 154)) 32 401 401) 153 1 (some 155)) 32 401 401) 153 2 (some 156)))
set_option maxRecDepth 20000 in
theorem T_X10_init {G : ax_G} {d : Nat} (hd : 1 ≤ d) (hN : ∀ k, gPh G k = false) (hmu : ax_Mul) {M : ax_M} (hz : mSz M = 4) {M1 : ax_M} (hf : fX10_init M = some M1) : ax_Ex G tX10_init d 0 (ax_args [vR 153] ++ List.replicate 0 none) [] M (.inl none) M1 := by
  show ax_Ex G tX10_init d 0 [some (vR 153)] [] M _ _
  unfold fX10_init at hf
  refine x_aload_n (pc := 0) dX10_init_0 rfl ?_
  refine x_objInit (pc := 1) dX10_init_1 WM_X10_3 WI_Object WK_Object (Nat.le_of_ble_eq_true rfl) (by omega) ?_
  refine x_aload_n (pc := 4) dX10_init_4 rfl ?_
  refine x_sipush (pc := 5) dX10_init_5 (by decide) ⟨by decide, by decide⟩ ?_
  refine x_newCK (N := 401) (c := 4) (K := 154) (by show mSz M = 4; omega) rfl (pc := 8) dX10_init_8 (by decide) rfl WC_X10_9 WA_kind ?_
  refine x_putRF (t := 8) (j := 0) (pc := 11) dX10_init_11 ⟨Nat.le_of_ble_eq_true rfl, Or.inl (by show 153 < 150 + (mSz M + 1); omega)⟩ rfl (by decide) (by decide) rfl (Or.inr ⟨_, rfl⟩) rfl rfl rfl WF_X10_11 (hN _) rfl ?_
  refine x_aload_n (pc := 14) dX10_init_14 rfl ?_
  refine x_sipush (pc := 15) dX10_init_15 (by decide) ⟨by decide, by decide⟩ ?_
  refine x_newCI (N := 401) (c := 5) (K := 155) (by show mSz M + 1 = 5; omega) rfl (pc := 18) dX10_init_18 (by decide) rfl WA_int ?_
  refine x_putRF (t := 8) (j := 1) (pc := 20) dX10_init_20 ⟨Nat.le_of_ble_eq_true rfl, Or.inl (by show 153 < 150 + (mSz M + 2); omega)⟩ rfl (by decide) (by decide) rfl (Or.inr ⟨_, rfl⟩) rfl rfl rfl WF_X10_17 (hN _) rfl ?_
  refine x_aload_n (pc := 23) dX10_init_23 rfl ?_
  refine x_sipush (pc := 24) dX10_init_24 (by decide) ⟨by decide, by decide⟩ ?_
  refine x_newCI (N := 401) (c := 6) (K := 156) (by show mSz M + 2 = 6; omega) rfl (pc := 27) dX10_init_27 (by decide) rfl WA_int ?_
  refine x_putRF (t := 8) (j := 2) (pc := 29) dX10_init_29 ⟨Nat.le_of_ble_eq_true rfl, Or.inl (by show 153 < 150 + (mSz M + 3); omega)⟩ rfl (by decide) (by decide) rfl (Or.inr ⟨_, rfl⟩) rfl rfl rfl WF_X10_21 (hN _) rfl ?_
  cases hf
  exact x_retV (pc := 32) dX10_init_32
/- ('HexPond$Plans', '<init>', '()V') of 157 -/
def fX7_init_a (M : ax_M) : Option ax_M :=
  (some (mUR (mAl (mUR (mAl (mUR (mAl (mUR (mAl (mUR (mAl (mUR (mAl (mUR (mAl (mUR (mAl M 36 400 400) 157 0 (some 158)) 32 400 400) 157 1 (some 159)) 36 16 16) 157 3 (some 160)) 32 16 16) 157 4 (some 161)) 32 16 16) 157 5 (some 162)) 32 16 16) 157 6 (some 163)) 32 16 16) 157 7 (some 164)) 32 16 16) 157 8 (some 165)))
set_option maxRecDepth 20000 in
theorem T_X7_init_a {G : ax_G} {d : Nat} (hd : 1 ≤ d) (hN : ∀ k, gPh G k = false) (hmu : ax_Mul) {M : ax_M} (hz : mSz M = 8) {M1 : ax_M} (hf : fX7_init_a M = some M1) : ax_Ex G tX7_init d 0 (ax_args [vR 157] ++ List.replicate 0 none) [] M (.inl none) M1 := by
  show ax_Ex G tX7_init d 0 [some (vR 157)] [] M _ _
  unfold fX7_init_a at hf
  refine x_aload_n (pc := 0) dX7_init_0 rfl ?_
  refine x_objInit (pc := 1) dX7_init_1 WM_X7_3 WI_Object WK_Object (Nat.le_of_ble_eq_true rfl) (by omega) ?_
  refine x_aload_n (pc := 4) dX7_init_4 rfl ?_
  refine x_sipush (pc := 5) dX7_init_5 (by decide) ⟨by decide, by decide⟩ ?_
  refine x_newCK (N := 400) (c := 8) (K := 158) (by show mSz M = 8; omega) rfl (pc := 8) dX7_init_8 (by decide) rfl WC_X7_9 WA_kind ?_
  refine x_putRF (t := 5) (j := 0) (pc := 11) dX7_init_11 ⟨Nat.le_of_ble_eq_true rfl, Or.inl (by show 157 < 150 + (mSz M + 1); omega)⟩ rfl (by decide) (by decide) rfl (Or.inr ⟨_, rfl⟩) rfl rfl rfl WF_X7_11 (hN _) rfl ?_
  refine x_aload_n (pc := 14) dX7_init_14 rfl ?_
  refine x_sipush (pc := 15) dX7_init_15 (by decide) ⟨by decide, by decide⟩ ?_
  refine x_newCI (N := 400) (c := 9) (K := 159) (by show mSz M + 1 = 9; omega) rfl (pc := 18) dX7_init_18 (by decide) rfl WA_int ?_
  refine x_putRF (t := 5) (j := 1) (pc := 20) dX7_init_20 ⟨Nat.le_of_ble_eq_true rfl, Or.inl (by show 157 < 150 + (mSz M + 2); omega)⟩ rfl (by decide) (by decide) rfl (Or.inr ⟨_, rfl⟩) rfl rfl rfl WF_X7_17 (hN _) rfl ?_
  refine x_aload_n (pc := 23) dX7_init_23 rfl ?_
  refine x_bipush (pc := 24) dX7_init_24 (by decide) ⟨by decide, by decide⟩ ?_
  refine x_newCK (N := 16) (c := 10) (K := 160) (by show mSz M + 2 = 10; omega) rfl (pc := 26) dX7_init_26 (by decide) rfl WC_X7_9 WA_kind ?_
  refine x_putRF (t := 5) (j := 3) (pc := 29) dX7_init_29 ⟨Nat.le_of_ble_eq_true rfl, Or.inl (by show 157 < 150 + (mSz M + 3); omega)⟩ rfl (by decide) (by decide) rfl (Or.inr ⟨_, rfl⟩) rfl rfl rfl WF_X7_21 (hN _) rfl ?_
  refine x_aload_n (pc := 32) dX7_init_32 rfl ?_
  refine x_bipush (pc := 33) dX7_init_33 (by decide) ⟨by decide, by decide⟩ ?_
  refine x_newCI (N := 16) (c := 11) (K := 161) (by show mSz M + 3 = 11; omega) rfl (pc := 35) dX7_init_35 (by decide) rfl WA_int ?_
  refine x_putRF (t := 5) (j := 4) (pc := 37) dX7_init_37 ⟨Nat.le_of_ble_eq_true rfl, Or.inl (by show 157 < 150 + (mSz M + 4); omega)⟩ rfl (by decide) (by decide) rfl (Or.inr ⟨_, rfl⟩) rfl rfl rfl WF_X7_24 (hN _) rfl ?_
  refine x_aload_n (pc := 40) dX7_init_40 rfl ?_
  refine x_bipush (pc := 41) dX7_init_41 (by decide) ⟨by decide, by decide⟩ ?_
  refine x_newCI (N := 16) (c := 12) (K := 162) (by show mSz M + 4 = 12; omega) rfl (pc := 43) dX7_init_43 (by decide) rfl WA_int ?_
  refine x_putRF (t := 5) (j := 5) (pc := 45) dX7_init_45 ⟨Nat.le_of_ble_eq_true rfl, Or.inl (by show 157 < 150 + (mSz M + 5); omega)⟩ rfl (by decide) (by decide) rfl (Or.inr ⟨_, rfl⟩) rfl rfl rfl WF_X7_27 (hN _) rfl ?_
  refine x_aload_n (pc := 48) dX7_init_48 rfl ?_
  refine x_bipush (pc := 49) dX7_init_49 (by decide) ⟨by decide, by decide⟩ ?_
  refine x_newCI (N := 16) (c := 13) (K := 163) (by show mSz M + 5 = 13; omega) rfl (pc := 51) dX7_init_51 (by decide) rfl WA_int ?_
  refine x_putRF (t := 5) (j := 6) (pc := 53) dX7_init_53 ⟨Nat.le_of_ble_eq_true rfl, Or.inl (by show 157 < 150 + (mSz M + 6); omega)⟩ rfl (by decide) (by decide) rfl (Or.inr ⟨_, rfl⟩) rfl rfl rfl WF_X7_30 (hN _) rfl ?_
  refine x_aload_n (pc := 56) dX7_init_56 rfl ?_
  refine x_bipush (pc := 57) dX7_init_57 (by decide) ⟨by decide, by decide⟩ ?_
  refine x_newCI (N := 16) (c := 14) (K := 164) (by show mSz M + 6 = 14; omega) rfl (pc := 59) dX7_init_59 (by decide) rfl WA_int ?_
  refine x_putRF (t := 5) (j := 7) (pc := 61) dX7_init_61 ⟨Nat.le_of_ble_eq_true rfl, Or.inl (by show 157 < 150 + (mSz M + 7); omega)⟩ rfl (by decide) (by decide) rfl (Or.inr ⟨_, rfl⟩) rfl rfl rfl WF_X7_33 (hN _) rfl ?_
  refine x_aload_n (pc := 64) dX7_init_64 rfl ?_
  refine x_bipush (pc := 65) dX7_init_65 (by decide) ⟨by decide, by decide⟩ ?_
  refine x_newCI (N := 16) (c := 15) (K := 165) (by show mSz M + 7 = 15; omega) rfl (pc := 67) dX7_init_67 (by decide) rfl WA_int ?_
  refine x_putRF (t := 5) (j := 8) (pc := 69) dX7_init_69 ⟨Nat.le_of_ble_eq_true rfl, Or.inl (by show 157 < 150 + (mSz M + 8); omega)⟩ rfl (by decide) (by decide) rfl (Or.inr ⟨_, rfl⟩) rfl rfl rfl WF_X7_36 (hN _) rfl ?_
  cases hf
  exact x_retV (pc := 72) dX7_init_72
/- ('HexPond$Grammar', '<init>', '(LHexPond$Tokens;LHexPond$Plans;)V') of 166 -/
def fX3_init (M : ax_M) : Option ax_M :=
  (some (mUR (mUR M 166 0 (some 153)) 166 1 (some 157)))
set_option maxRecDepth 20000 in
theorem T_X3_init {G : ax_G} {d : Nat} (hd : 1 ≤ d) (hN : ∀ k, gPh G k = false) (hmu : ax_Mul) {M : ax_M} (hz : mSz M = 17) {M1 : ax_M} (hf : fX3_init M = some M1) : ax_Ex G tX3_init d 0 (ax_args [vR 166, vR 153, vR 157] ++ List.replicate 0 none) [] M (.inl none) M1 := by
  show ax_Ex G tX3_init d 0 [some (vR 166), some (vR 153), some (vR 157)] [] M _ _
  unfold fX3_init at hf
  refine x_aload_n (pc := 0) dX3_init_0 rfl ?_
  refine x_objInit (pc := 1) dX3_init_1 WM_X3_3 WI_Object WK_Object (Nat.le_of_ble_eq_true rfl) (by omega) ?_
  refine x_aload_n (pc := 4) dX3_init_4 rfl ?_
  refine x_aload_n (pc := 5) dX3_init_5 rfl ?_
  refine x_putRF (t := 2) (j := 0) (pc := 6) dX3_init_6 ⟨Nat.le_of_ble_eq_true rfl, Or.inl (by show 166 < 150 + mSz M; omega)⟩ rfl (by decide) (by decide) rfl (Or.inl ⟨_, rfl⟩) rfl rfl rfl WF_X3_9 (hN _) rfl ?_
  refine x_aload_n (pc := 9) dX3_init_9 rfl ?_
  refine x_aload_n (pc := 10) dX3_init_10 rfl ?_
  refine x_putR (t := 2) (j := 1) (pc := 11) dX3_init_11 ⟨Nat.le_of_ble_eq_true rfl, Or.inl (by show 166 < 150 + mSz M; omega)⟩ rfl (by decide) (by decide) rfl ⟨_, rfl⟩ rfl WF_X3_15 (fun q => by rw [hN] at q; cases q) rfl ?_
  cases hf
  exact x_retV (pc := 14) dX3_init_14
/- ('HexPond$Meaning', '<init>', '(LHexPond$Tokens;)V') of 167 -/
def fX6_init (M : ax_M) : Option ax_M :=
  (some (mUR (mUR (mAl M 32 81 81) 167 1 (some 168)) 167 0 (some 153)))
set_option maxRecDepth 20000 in
theorem T_X6_init {G : ax_G} {d : Nat} (hd : 1 ≤ d) (hN : ∀ k, gPh G k = false) (hmu : ax_Mul) {M : ax_M} (hz : mSz M = 18) {M1 : ax_M} (hf : fX6_init M = some M1) : ax_Ex G tX6_init d 0 (ax_args [vR 167, vR 153] ++ List.replicate 0 none) [] M (.inl none) M1 := by
  show ax_Ex G tX6_init d 0 [some (vR 167), some (vR 153)] [] M _ _
  unfold fX6_init at hf
  refine x_aload_n (pc := 0) dX6_init_0 rfl ?_
  refine x_objInit (pc := 1) dX6_init_1 WM_X6_3 WI_Object WK_Object (Nat.le_of_ble_eq_true rfl) (by omega) ?_
  refine x_aload_n (pc := 4) dX6_init_4 rfl ?_
  refine x_bipush (pc := 5) dX6_init_5 (by decide) ⟨by decide, by decide⟩ ?_
  refine x_newCI (N := 81) (c := 18) (K := 168) (by show mSz M = 18; omega) rfl (pc := 7) dX6_init_7 (by decide) rfl WA_int ?_
  refine x_putRF (t := 4) (j := 1) (pc := 9) dX6_init_9 ⟨Nat.le_of_ble_eq_true rfl, Or.inl (by show 167 < 150 + (mSz M + 1); omega)⟩ rfl (by decide) (by decide) rfl (Or.inr ⟨_, rfl⟩) rfl rfl rfl WF_X6_9 (hN _) rfl ?_
  refine x_aload_n (pc := 12) dX6_init_12 rfl ?_
  refine x_aload_n (pc := 13) dX6_init_13 rfl ?_
  refine x_putRF (t := 4) (j := 0) (pc := 14) dX6_init_14 ⟨Nat.le_of_ble_eq_true rfl, Or.inl (by show 167 < 150 + (mSz M + 1); omega)⟩ rfl (by decide) (by decide) rfl (Or.inl ⟨_, rfl⟩) rfl rfl rfl WF_X6_15 (hN _) rfl ?_
  cases hf
  exact x_retV (pc := 17) dX6_init_17
/- ('HexPond$Pond', '<init>', '()V') of 169 -/
def fX8_init (M : ax_M) : Option ax_M :=
  (if ax_frz (mUR (mAl (mUR (mAl (mUR (mAl (mUR (mAl (mUR (mAl (mUR (mAl M 32 81 81) 169 2 (some 170)) 32 486 486) 169 3 (some 171)) 32 81 81) 169 4 (some 172)) 32 81 81) 169 5 (some 173)) 32 2 2) 169 6 (some 174)) 32 81 81) 169 7 (some 175)) 169 176 = true then (bd1 (fX8_begin (mUR (mAl (mUR (mAl (mUR (mAl (mUR (mAl (mUR (mAl (mUR (mAl M 32 81 81) 169 2 (some 170)) 32 486 486) 169 3 (some 171)) 32 81 81) 169 4 (some 172)) 32 81 81) 169 5 (some 173)) 32 2 2) 169 6 (some 174)) 32 81 81) 169 7 (some 175)) 7 7) fun M103 => (some M103)) else none)
set_option maxRecDepth 20000 in
theorem T_X8_init {G : ax_G} {d : Nat} (hd : 3 ≤ d) (hN : ∀ k, gPh G k = false) (hmu : ax_Mul) {M : ax_M} (hz : mSz M = 20) {M1 : ax_M} (hf : fX8_init M = some M1) : ax_Ex G tX8_init d 0 (ax_args [vR 169] ++ List.replicate 0 none) [] M (.inl none) M1 := by
  show ax_Ex G tX8_init d 0 [some (vR 169)] [] M _ _
  unfold fX8_init at hf
  refine x_aload_n (pc := 0) dX8_init_0 rfl ?_
  refine x_objInit (pc := 1) dX8_init_1 WM_X8_3 WI_Object WK_Object (Nat.le_of_ble_eq_true rfl) (by omega) ?_
  refine x_aload_n (pc := 4) dX8_init_4 rfl ?_
  refine x_bipush (pc := 5) dX8_init_5 (by decide) ⟨by decide, by decide⟩ ?_
  refine x_newCI (N := 81) (c := 20) (K := 170) (by show mSz M = 20; omega) rfl (pc := 7) dX8_init_7 (by decide) rfl WA_int ?_
  refine x_putRF (t := 6) (j := 2) (pc := 9) dX8_init_9 ⟨Nat.le_of_ble_eq_true rfl, Or.inl (by show 169 < 150 + (mSz M + 1); omega)⟩ rfl (by decide) (by decide) rfl (Or.inr ⟨_, rfl⟩) rfl rfl rfl WF_X8_9 (hN _) rfl ?_
  refine x_aload_n (pc := 12) dX8_init_12 rfl ?_
  refine x_sipush (pc := 13) dX8_init_13 (by decide) ⟨by decide, by decide⟩ ?_
  refine x_newCI (N := 486) (c := 21) (K := 171) (by show mSz M + 1 = 21; omega) rfl (pc := 16) dX8_init_16 (by decide) rfl WA_int ?_
  refine x_putRF (t := 6) (j := 3) (pc := 18) dX8_init_18 ⟨Nat.le_of_ble_eq_true rfl, Or.inl (by show 169 < 150 + (mSz M + 2); omega)⟩ rfl (by decide) (by decide) rfl (Or.inr ⟨_, rfl⟩) rfl rfl rfl WF_X8_15 (hN _) rfl ?_
  refine x_aload_n (pc := 21) dX8_init_21 rfl ?_
  refine x_bipush (pc := 22) dX8_init_22 (by decide) ⟨by decide, by decide⟩ ?_
  refine x_newCI (N := 81) (c := 22) (K := 172) (by show mSz M + 2 = 22; omega) rfl (pc := 24) dX8_init_24 (by decide) rfl WA_int ?_
  refine x_putRF (t := 6) (j := 4) (pc := 26) dX8_init_26 ⟨Nat.le_of_ble_eq_true rfl, Or.inl (by show 169 < 150 + (mSz M + 3); omega)⟩ rfl (by decide) (by decide) rfl (Or.inr ⟨_, rfl⟩) rfl rfl rfl WF_X8_18 (hN _) rfl ?_
  refine x_aload_n (pc := 29) dX8_init_29 rfl ?_
  refine x_bipush (pc := 30) dX8_init_30 (by decide) ⟨by decide, by decide⟩ ?_
  refine x_newCI (N := 81) (c := 23) (K := 173) (by show mSz M + 3 = 23; omega) rfl (pc := 32) dX8_init_32 (by decide) rfl WA_int ?_
  refine x_putRF (t := 6) (j := 5) (pc := 34) dX8_init_34 ⟨Nat.le_of_ble_eq_true rfl, Or.inl (by show 169 < 150 + (mSz M + 4); omega)⟩ rfl (by decide) (by decide) rfl (Or.inr ⟨_, rfl⟩) rfl rfl rfl WF_X8_21 (hN _) rfl ?_
  refine x_aload_n (pc := 37) dX8_init_37 rfl ?_
  refine x_iconst (pc := 38) dX8_init_38 ⟨by decide, by decide⟩ ?_
  refine x_newCI (N := 2) (c := 24) (K := 174) (by show mSz M + 4 = 24; omega) rfl (pc := 39) dX8_init_39 (by decide) rfl WA_int ?_
  refine x_putRF (t := 6) (j := 6) (pc := 41) dX8_init_41 ⟨Nat.le_of_ble_eq_true rfl, Or.inl (by show 169 < 150 + (mSz M + 5); omega)⟩ rfl (by decide) (by decide) rfl (Or.inr ⟨_, rfl⟩) rfl rfl rfl WF_X8_24 (hN _) rfl ?_
  refine x_aload_n (pc := 44) dX8_init_44 rfl ?_
  refine x_bipush (pc := 45) dX8_init_45 (by decide) ⟨by decide, by decide⟩ ?_
  refine x_newCI (N := 81) (c := 25) (K := 175) (by show mSz M + 5 = 25; omega) rfl (pc := 47) dX8_init_47 (by decide) rfl WA_int ?_
  refine x_putRF (t := 6) (j := 7) (pc := 49) dX8_init_49 ⟨Nat.le_of_ble_eq_true rfl, Or.inl (by show 169 < 150 + (mSz M + 6); omega)⟩ rfl (by decide) (by decide) rfl (Or.inr ⟨_, rfl⟩) rfl rfl rfl WF_X8_27 (hN _) rfl ?_
  refine x_aload_n (pc := 52) dX8_init_52 rfl ?_
  refine x_bipush (pc := 53) dX8_init_53 (by decide) ⟨by decide, by decide⟩ ?_
  refine x_bipush (pc := 55) dX8_init_55 (by decide) ⟨by decide, by decide⟩ ?_
  by_cases h101 : ax_frz (mUR (mAl (mUR (mAl (mUR (mAl (mUR (mAl (mUR (mAl (mUR (mAl M 32 81 81) 169 2 (some 170)) 32 486 486) 169 3 (some 171)) 32 81 81) 169 4 (some 172)) 32 81 81) 169 5 (some 173)) 32 2 2) 169 6 (some 174)) 32 81 81) 169 7 (some 175)) 169 176 = true
  · replace hf := (if_pos h101).symm.trans hf
    refine x_phaseC (a := 169) (b := 176) h101 ?_
    have hG := axPb_self G 169 176
    obtain ⟨M103, r102, hf⟩ := bd1_some hf
    refine x_cv (vs := [vR 169, vI 7, vI 7]) (rest := []) (k := 2) rfl (by omega) (ax_caV (pc := 57) dX8_init_57 kX8_begin rfl rfl WM_X8_30 WI_X8_begin WS_X8_begin WN_X8 (ax_rcO (t := 6) (axEx hG rfl) rfl (by decide)) (Nat.le_of_ble_eq_true rfl)) kX8_begin rfl True.intro (T_X8_begin (by omega) hG r102) ?_
    cases hf
    exact x_retV (pc := 60) dX8_init_60
  · replace hf := (if_neg h101).symm.trans hf
    cases hf
/- ('HexPond$Groups', '<init>', '(LHexPond$Pond;)V') of 176 -/
def fX4_init (M : ax_M) : Option ax_M :=
  (some (mUR (mUR (mAl (mUR (mAl M 32 81 81) 176 1 (some 177)) 32 81 81) 176 2 (some 178)) 176 0 (some 169)))
set_option maxRecDepth 20000 in
theorem T_X4_init {G : ax_G} {d : Nat} (hd : 1 ≤ d) (hN : ∀ k, gPh G k = false) (hmu : ax_Mul) {M : ax_M} (hz : mSz M = 27) {M1 : ax_M} (hf : fX4_init M = some M1) : ax_Ex G tX4_init d 0 (ax_args [vR 176, vR 169] ++ List.replicate 0 none) [] M (.inl none) M1 := by
  show ax_Ex G tX4_init d 0 [some (vR 176), some (vR 169)] [] M _ _
  unfold fX4_init at hf
  refine x_aload_n (pc := 0) dX4_init_0 rfl ?_
  refine x_objInit (pc := 1) dX4_init_1 WM_X4_3 WI_Object WK_Object (Nat.le_of_ble_eq_true rfl) (by omega) ?_
  refine x_aload_n (pc := 4) dX4_init_4 rfl ?_
  refine x_bipush (pc := 5) dX4_init_5 (by decide) ⟨by decide, by decide⟩ ?_
  refine x_newCI (N := 81) (c := 27) (K := 177) (by show mSz M = 27; omega) rfl (pc := 7) dX4_init_7 (by decide) rfl WA_int ?_
  refine x_putRF (t := 3) (j := 1) (pc := 9) dX4_init_9 ⟨Nat.le_of_ble_eq_true rfl, Or.inl (by show 176 < 150 + (mSz M + 1); omega)⟩ rfl (by decide) (by decide) rfl (Or.inr ⟨_, rfl⟩) rfl rfl rfl WF_X4_9 (hN _) rfl ?_
  refine x_aload_n (pc := 12) dX4_init_12 rfl ?_
  refine x_bipush (pc := 13) dX4_init_13 (by decide) ⟨by decide, by decide⟩ ?_
  refine x_newCI (N := 81) (c := 28) (K := 178) (by show mSz M + 1 = 28; omega) rfl (pc := 15) dX4_init_15 (by decide) rfl WA_int ?_
  refine x_putRF (t := 3) (j := 2) (pc := 17) dX4_init_17 ⟨Nat.le_of_ble_eq_true rfl, Or.inl (by show 176 < 150 + (mSz M + 2); omega)⟩ rfl (by decide) (by decide) rfl (Or.inr ⟨_, rfl⟩) rfl rfl rfl WF_X4_15 (hN _) rfl ?_
  refine x_aload_n (pc := 20) dX4_init_20 rfl ?_
  refine x_aload_n (pc := 21) dX4_init_21 rfl ?_
  refine x_putRF (t := 3) (j := 0) (pc := 22) dX4_init_22 ⟨Nat.le_of_ble_eq_true rfl, Or.inl (by show 176 < 150 + (mSz M + 2); omega)⟩ rfl (by decide) (by decide) rfl (Or.inl ⟨_, rfl⟩) rfl rfl rfl WF_X4_18 (hN _) rfl ?_
  cases hf
  exact x_retV (pc := 25) dX4_init_25
/- ('HexPond$Bridges', '<init>', '(LHexPond$Pond;)V') of 179 -/
def fX1_init (M : ax_M) : Option ax_M :=
  (some (mUR (mUI (mUR (mAl (mUR (mAl (mUR (mAl M 32 2 2) 179 1 (some 180)) 32 2 2) 179 2 (some 181)) 32 2 2) 179 3 (some 182)) 179 4 (-1)) 179 0 (some 169)))
set_option maxRecDepth 20000 in
theorem T_X1_init {G : ax_G} {d : Nat} (hd : 1 ≤ d) (hN : ∀ k, gPh G k = false) (hmu : ax_Mul) {M : ax_M} (hz : mSz M = 30) {M1 : ax_M} (hf : fX1_init M = some M1) : ax_Ex G tX1_init d 0 (ax_args [vR 179, vR 169] ++ List.replicate 0 none) [] M (.inl none) M1 := by
  show ax_Ex G tX1_init d 0 [some (vR 179), some (vR 169)] [] M _ _
  unfold fX1_init at hf
  refine x_aload_n (pc := 0) dX1_init_0 rfl ?_
  refine x_objInit (pc := 1) dX1_init_1 WM_X1_3 WI_Object WK_Object (Nat.le_of_ble_eq_true rfl) (by omega) ?_
  refine x_aload_n (pc := 4) dX1_init_4 rfl ?_
  refine x_iconst (pc := 5) dX1_init_5 ⟨by decide, by decide⟩ ?_
  refine x_newCI (N := 2) (c := 30) (K := 180) (by show mSz M = 30; omega) rfl (pc := 6) dX1_init_6 (by decide) rfl WA_int ?_
  refine x_putRF (t := 0) (j := 1) (pc := 8) dX1_init_8 ⟨Nat.le_of_ble_eq_true rfl, Or.inl (by show 179 < 150 + (mSz M + 1); omega)⟩ rfl (by decide) (by decide) rfl (Or.inr ⟨_, rfl⟩) rfl rfl rfl WF_X1_9 (hN _) rfl ?_
  refine x_aload_n (pc := 11) dX1_init_11 rfl ?_
  refine x_iconst (pc := 12) dX1_init_12 ⟨by decide, by decide⟩ ?_
  refine x_newCI (N := 2) (c := 31) (K := 181) (by show mSz M + 1 = 31; omega) rfl (pc := 13) dX1_init_13 (by decide) rfl WA_int ?_
  refine x_putRF (t := 0) (j := 2) (pc := 15) dX1_init_15 ⟨Nat.le_of_ble_eq_true rfl, Or.inl (by show 179 < 150 + (mSz M + 2); omega)⟩ rfl (by decide) (by decide) rfl (Or.inr ⟨_, rfl⟩) rfl rfl rfl WF_X1_15 (hN _) rfl ?_
  refine x_aload_n (pc := 18) dX1_init_18 rfl ?_
  refine x_iconst (pc := 19) dX1_init_19 ⟨by decide, by decide⟩ ?_
  refine x_newCI (N := 2) (c := 32) (K := 182) (by show mSz M + 2 = 32; omega) rfl (pc := 20) dX1_init_20 (by decide) rfl WA_int ?_
  refine x_putRF (t := 0) (j := 3) (pc := 22) dX1_init_22 ⟨Nat.le_of_ble_eq_true rfl, Or.inl (by show 179 < 150 + (mSz M + 3); omega)⟩ rfl (by decide) (by decide) rfl (Or.inr ⟨_, rfl⟩) rfl rfl rfl WF_X1_18 (hN _) rfl ?_
  refine x_aload_n (pc := 25) dX1_init_25 rfl ?_
  refine x_iconst (pc := 26) dX1_init_26 ⟨by decide, by decide⟩ ?_
  refine x_putI (t := 0) (j := 4) (pc := 27) dX1_init_27 ⟨Nat.le_of_ble_eq_true rfl, Or.inl (by show 179 < 150 + (mSz M + 3); omega)⟩ rfl (by decide) (by decide) rfl rfl WF_X1_21 ?_
  refine x_aload_n (pc := 30) dX1_init_30 rfl ?_
  refine x_aload_n (pc := 31) dX1_init_31 rfl ?_
  refine x_putRF (t := 0) (j := 0) (pc := 32) dX1_init_32 ⟨Nat.le_of_ble_eq_true rfl, Or.inl (by show 179 < 150 + (mSz M + 3); omega)⟩ rfl (by decide) (by decide) rfl (Or.inl ⟨_, rfl⟩) rfl rfl rfl WF_X1_25 (hN _) rfl ?_
  cases hf
  exact x_retV (pc := 35) dX1_init_35
/- ('HexPond$Ways', '<init>', '(LHexPond$Pond;)V') of 183 -/
def fX11_init (M : ax_M) : Option ax_M :=
  (if mR (mUR (mUR (mAl (mUR (mAl (mUR (mAl (mUR (mMu M) 183 1 (some 184)) 32 4 4) 183 2 (some 189)) 32 2 2) 183 3 (some 190)) 32 162 162) 183 4 (some 191)) 183 0 (some 169)) 183 2 = some 189 then (some (mFi (mUR (mUR (mAl (mUR (mAl (mUR (mAl (mUR (mMu M) 183 1 (some 184)) 32 4 4) 183 2 (some 189)) 32 2 2) 183 3 (some 190)) 32 162 162) 183 4 (some 191)) 183 0 (some 169)) 189 4 (-1))) else none)
set_option maxRecDepth 20000 in
theorem T_X11_init {G : ax_G} {d : Nat} (hd : 1 ≤ d) (hN : ∀ k, gPh G k = false) (hmu : ax_Mul) {M : ax_M} (hz : mSz M = 34) {M1 : ax_M} (hf : fX11_init M = some M1) : ax_Ex G tX11_init d 0 (ax_args [vR 183, vR 169] ++ List.replicate 0 none) [] M (.inl none) M1 := by
  show ax_Ex G tX11_init d 0 [some (vR 183), some (vR 169)] [] M _ _
  unfold fX11_init at hf
  refine x_aload_n (pc := 0) dX11_init_0 rfl ?_
  refine x_objInit (pc := 1) dX11_init_1 WM_X11_3 WI_Object WK_Object (Nat.le_of_ble_eq_true rfl) (by omega) ?_
  refine x_aload_n (pc := 4) dX11_init_4 rfl ?_
  refine x_iconst (pc := 5) dX11_init_5 ⟨by decide, by decide⟩ ?_
  refine x_bipush (pc := 6) dX11_init_6 (by decide) ⟨by decide, by decide⟩ ?_
  refine hmu (pc := 8) dX11_init_8 (by show mSz M = 34; omega) WC_X11_9 WA_rows WA_int hN ?_
  refine x_putRF (t := 9) (j := 1) (pc := 12) dX11_init_12 ⟨Nat.le_of_ble_eq_true rfl, Or.inl (by show 183 < 150 + (mSz M + 5); omega)⟩ rfl (by decide) (by decide) rfl (Or.inr ⟨_, rfl⟩) rfl rfl rfl WF_X11_11 (hN _) rfl ?_
  refine x_aload_n (pc := 15) dX11_init_15 rfl ?_
  refine x_iconst (pc := 16) dX11_init_16 ⟨by decide, by decide⟩ ?_
  refine x_newCI (N := 4) (c := 39) (K := 189) (by show mSz M + 5 = 39; omega) rfl (pc := 17) dX11_init_17 (by decide) rfl WA_int ?_
  refine x_putRF (t := 9) (j := 2) (pc := 19) dX11_init_19 ⟨Nat.le_of_ble_eq_true rfl, Or.inl (by show 183 < 150 + (mSz M + 6); omega)⟩ rfl (by decide) (by decide) rfl (Or.inr ⟨_, rfl⟩) rfl rfl rfl WF_X11_16 (hN _) rfl ?_
  refine x_aload_n (pc := 22) dX11_init_22 rfl ?_
  refine x_iconst (pc := 23) dX11_init_23 ⟨by decide, by decide⟩ ?_
  refine x_newCI (N := 2) (c := 40) (K := 190) (by show mSz M + 6 = 40; omega) rfl (pc := 24) dX11_init_24 (by decide) rfl WA_int ?_
  refine x_putRF (t := 9) (j := 3) (pc := 26) dX11_init_26 ⟨Nat.le_of_ble_eq_true rfl, Or.inl (by show 183 < 150 + (mSz M + 7); omega)⟩ rfl (by decide) (by decide) rfl (Or.inr ⟨_, rfl⟩) rfl rfl rfl WF_X11_20 (hN _) rfl ?_
  refine x_aload_n (pc := 29) dX11_init_29 rfl ?_
  refine x_sipush (pc := 30) dX11_init_30 (by decide) ⟨by decide, by decide⟩ ?_
  refine x_newCI (N := 162) (c := 41) (K := 191) (by show mSz M + 7 = 41; omega) rfl (pc := 33) dX11_init_33 (by decide) rfl WA_int ?_
  refine x_putRF (t := 9) (j := 4) (pc := 35) dX11_init_35 ⟨Nat.le_of_ble_eq_true rfl, Or.inl (by show 183 < 150 + (mSz M + 8); omega)⟩ rfl (by decide) (by decide) rfl (Or.inr ⟨_, rfl⟩) rfl rfl rfl WF_X11_23 (hN _) rfl ?_
  refine x_aload_n (pc := 38) dX11_init_38 rfl ?_
  refine x_aload_n (pc := 39) dX11_init_39 rfl ?_
  refine x_putRF (t := 9) (j := 0) (pc := 40) dX11_init_40 ⟨Nat.le_of_ble_eq_true rfl, Or.inl (by show 183 < 150 + (mSz M + 8); omega)⟩ rfl (by decide) (by decide) rfl (Or.inl ⟨_, rfl⟩) rfl rfl rfl WF_X11_26 (hN _) rfl ?_
  refine x_aload_n (pc := 43) dX11_init_43 rfl ?_
  by_cases h101 : mR (mUR (mUR (mAl (mUR (mAl (mUR (mAl (mUR (mMu M) 183 1 (some 184)) 32 4 4) 183 2 (some 189)) 32 2 2) 183 3 (some 190)) 32 162 162) 183 4 (some 191)) 183 0 (some 169)) 183 2 = some 189
  · replace hf := (if_pos h101).symm.trans hf
    refine x_getRq h101 (t := 9) (j := 2) (pc := 44) dX11_init_44 ⟨Nat.le_of_ble_eq_true rfl, Or.inl (by show 183 < 150 + (mSz M + 8); omega)⟩ rfl (by decide) (by decide) rfl WF_X11_16 ?_
    refine x_iconst (pc := 47) dX11_init_47 ⟨by decide, by decide⟩ ?_
    refine x_cv (vs := [vR 189, vI (-1)]) (rest := []) (k := 2) rfl (by omega) (ax_caS (pc := 48) dX11_init_48 kJ7_fill_53178 rfl rfl WM_X11_30 WT_J7_fill_53178 WN_J7 (Nat.le_of_ble_eq_true rfl)) kJ7_fill_53178 rfl True.intro (T_fill (n := 4) ⟨Nat.le_of_ble_eq_true rfl, Or.inl (by show 189 < 150 + (mSz M + 8); omega)⟩ rfl (by decide)) ?_
    cases hf
    exact x_retV (pc := 51) dX11_init_51
  · replace hf := (if_neg h101).symm.trans hf
    cases hf
/- ('HexPond$Chooser', '<init>', '(LHexPond$Pond;LHexPond$Bridges;LHexPond$Ways;)V') of 192 -/
def fX2_init (M : ax_M) : Option ax_M :=
  (some (mUR (mUR (mUR (mUR (mAl M 32 400 400) 192 3 (some 193)) 192 0 (some 169)) 192 1 (some 179)) 192 2 (some 183)))
set_option maxRecDepth 20000 in
theorem T_X2_init {G : ax_G} {d : Nat} (hd : 1 ≤ d) (hN : ∀ k, gPh G k = false) (hmu : ax_Mul) {M : ax_M} (hz : mSz M = 43) {M1 : ax_M} (hf : fX2_init M = some M1) : ax_Ex G tX2_init d 0 (ax_args [vR 192, vR 169, vR 179, vR 183] ++ List.replicate 0 none) [] M (.inl none) M1 := by
  show ax_Ex G tX2_init d 0 [some (vR 192), some (vR 169), some (vR 179), some (vR 183)] [] M _ _
  unfold fX2_init at hf
  refine x_aload_n (pc := 0) dX2_init_0 rfl ?_
  refine x_objInit (pc := 1) dX2_init_1 WM_X2_3 WI_Object WK_Object (Nat.le_of_ble_eq_true rfl) (by omega) ?_
  refine x_aload_n (pc := 4) dX2_init_4 rfl ?_
  refine x_sipush (pc := 5) dX2_init_5 (by decide) ⟨by decide, by decide⟩ ?_
  refine x_newCI (N := 400) (c := 43) (K := 193) (by show mSz M = 43; omega) rfl (pc := 8) dX2_init_8 (by decide) rfl WA_int ?_
  refine x_putRF (t := 1) (j := 3) (pc := 10) dX2_init_10 ⟨Nat.le_of_ble_eq_true rfl, Or.inl (by show 192 < 150 + (mSz M + 1); omega)⟩ rfl (by decide) (by decide) rfl (Or.inr ⟨_, rfl⟩) rfl rfl rfl WF_X2_9 (hN _) rfl ?_
  refine x_aload_n (pc := 13) dX2_init_13 rfl ?_
  refine x_aload_n (pc := 14) dX2_init_14 rfl ?_
  refine x_putRF (t := 1) (j := 0) (pc := 15) dX2_init_15 ⟨Nat.le_of_ble_eq_true rfl, Or.inl (by show 192 < 150 + (mSz M + 1); omega)⟩ rfl (by decide) (by decide) rfl (Or.inl ⟨_, rfl⟩) rfl rfl rfl WF_X2_15 (hN _) rfl ?_
  refine x_aload_n (pc := 18) dX2_init_18 rfl ?_
  refine x_aload_n (pc := 19) dX2_init_19 rfl ?_
  refine x_putRF (t := 1) (j := 1) (pc := 20) dX2_init_20 ⟨Nat.le_of_ble_eq_true rfl, Or.inl (by show 192 < 150 + (mSz M + 1); omega)⟩ rfl (by decide) (by decide) rfl (Or.inl ⟨_, rfl⟩) rfl rfl rfl WF_X2_19 (hN _) rfl ?_
  refine x_aload_n (pc := 23) dX2_init_23 rfl ?_
  refine x_aload_n (pc := 24) dX2_init_24 rfl ?_
  refine x_putRF (t := 1) (j := 2) (pc := 25) dX2_init_25 ⟨Nat.le_of_ble_eq_true rfl, Or.inl (by show 192 < 150 + (mSz M + 1); omega)⟩ rfl (by decide) (by decide) rfl (Or.inl ⟨_, rfl⟩) rfl rfl rfl WF_X2_23 (hN _) rfl ?_
  cases hf
  exact x_retV (pc := 28) dX2_init_28
/- ('HexPond$Plans', '<init>', '()V') of 194 -/
def fX7_init_b (M : ax_M) : Option ax_M :=
  (some (mUR (mAl (mUR (mAl (mUR (mAl (mUR (mAl (mUR (mAl (mUR (mAl (mUR (mAl (mUR (mAl M 36 400 400) 194 0 (some 195)) 32 400 400) 194 1 (some 196)) 36 16 16) 194 3 (some 197)) 32 16 16) 194 4 (some 198)) 32 16 16) 194 5 (some 199)) 32 16 16) 194 6 (some 200)) 32 16 16) 194 7 (some 201)) 32 16 16) 194 8 (some 202)))
set_option maxRecDepth 20000 in
theorem T_X7_init_b {G : ax_G} {d : Nat} (hd : 1 ≤ d) (hN : ∀ k, gPh G k = false) (hmu : ax_Mul) {M : ax_M} (hz : mSz M = 45) {M1 : ax_M} (hf : fX7_init_b M = some M1) : ax_Ex G tX7_init d 0 (ax_args [vR 194] ++ List.replicate 0 none) [] M (.inl none) M1 := by
  show ax_Ex G tX7_init d 0 [some (vR 194)] [] M _ _
  unfold fX7_init_b at hf
  refine x_aload_n (pc := 0) dX7_init_0 rfl ?_
  refine x_objInit (pc := 1) dX7_init_1 WM_X7_3 WI_Object WK_Object (Nat.le_of_ble_eq_true rfl) (by omega) ?_
  refine x_aload_n (pc := 4) dX7_init_4 rfl ?_
  refine x_sipush (pc := 5) dX7_init_5 (by decide) ⟨by decide, by decide⟩ ?_
  refine x_newCK (N := 400) (c := 45) (K := 195) (by show mSz M = 45; omega) rfl (pc := 8) dX7_init_8 (by decide) rfl WC_X7_9 WA_kind ?_
  refine x_putRF (t := 5) (j := 0) (pc := 11) dX7_init_11 ⟨Nat.le_of_ble_eq_true rfl, Or.inl (by show 194 < 150 + (mSz M + 1); omega)⟩ rfl (by decide) (by decide) rfl (Or.inr ⟨_, rfl⟩) rfl rfl rfl WF_X7_11 (hN _) rfl ?_
  refine x_aload_n (pc := 14) dX7_init_14 rfl ?_
  refine x_sipush (pc := 15) dX7_init_15 (by decide) ⟨by decide, by decide⟩ ?_
  refine x_newCI (N := 400) (c := 46) (K := 196) (by show mSz M + 1 = 46; omega) rfl (pc := 18) dX7_init_18 (by decide) rfl WA_int ?_
  refine x_putRF (t := 5) (j := 1) (pc := 20) dX7_init_20 ⟨Nat.le_of_ble_eq_true rfl, Or.inl (by show 194 < 150 + (mSz M + 2); omega)⟩ rfl (by decide) (by decide) rfl (Or.inr ⟨_, rfl⟩) rfl rfl rfl WF_X7_17 (hN _) rfl ?_
  refine x_aload_n (pc := 23) dX7_init_23 rfl ?_
  refine x_bipush (pc := 24) dX7_init_24 (by decide) ⟨by decide, by decide⟩ ?_
  refine x_newCK (N := 16) (c := 47) (K := 197) (by show mSz M + 2 = 47; omega) rfl (pc := 26) dX7_init_26 (by decide) rfl WC_X7_9 WA_kind ?_
  refine x_putRF (t := 5) (j := 3) (pc := 29) dX7_init_29 ⟨Nat.le_of_ble_eq_true rfl, Or.inl (by show 194 < 150 + (mSz M + 3); omega)⟩ rfl (by decide) (by decide) rfl (Or.inr ⟨_, rfl⟩) rfl rfl rfl WF_X7_21 (hN _) rfl ?_
  refine x_aload_n (pc := 32) dX7_init_32 rfl ?_
  refine x_bipush (pc := 33) dX7_init_33 (by decide) ⟨by decide, by decide⟩ ?_
  refine x_newCI (N := 16) (c := 48) (K := 198) (by show mSz M + 3 = 48; omega) rfl (pc := 35) dX7_init_35 (by decide) rfl WA_int ?_
  refine x_putRF (t := 5) (j := 4) (pc := 37) dX7_init_37 ⟨Nat.le_of_ble_eq_true rfl, Or.inl (by show 194 < 150 + (mSz M + 4); omega)⟩ rfl (by decide) (by decide) rfl (Or.inr ⟨_, rfl⟩) rfl rfl rfl WF_X7_24 (hN _) rfl ?_
  refine x_aload_n (pc := 40) dX7_init_40 rfl ?_
  refine x_bipush (pc := 41) dX7_init_41 (by decide) ⟨by decide, by decide⟩ ?_
  refine x_newCI (N := 16) (c := 49) (K := 199) (by show mSz M + 4 = 49; omega) rfl (pc := 43) dX7_init_43 (by decide) rfl WA_int ?_
  refine x_putRF (t := 5) (j := 5) (pc := 45) dX7_init_45 ⟨Nat.le_of_ble_eq_true rfl, Or.inl (by show 194 < 150 + (mSz M + 5); omega)⟩ rfl (by decide) (by decide) rfl (Or.inr ⟨_, rfl⟩) rfl rfl rfl WF_X7_27 (hN _) rfl ?_
  refine x_aload_n (pc := 48) dX7_init_48 rfl ?_
  refine x_bipush (pc := 49) dX7_init_49 (by decide) ⟨by decide, by decide⟩ ?_
  refine x_newCI (N := 16) (c := 50) (K := 200) (by show mSz M + 5 = 50; omega) rfl (pc := 51) dX7_init_51 (by decide) rfl WA_int ?_
  refine x_putRF (t := 5) (j := 6) (pc := 53) dX7_init_53 ⟨Nat.le_of_ble_eq_true rfl, Or.inl (by show 194 < 150 + (mSz M + 6); omega)⟩ rfl (by decide) (by decide) rfl (Or.inr ⟨_, rfl⟩) rfl rfl rfl WF_X7_30 (hN _) rfl ?_
  refine x_aload_n (pc := 56) dX7_init_56 rfl ?_
  refine x_bipush (pc := 57) dX7_init_57 (by decide) ⟨by decide, by decide⟩ ?_
  refine x_newCI (N := 16) (c := 51) (K := 201) (by show mSz M + 6 = 51; omega) rfl (pc := 59) dX7_init_59 (by decide) rfl WA_int ?_
  refine x_putRF (t := 5) (j := 7) (pc := 61) dX7_init_61 ⟨Nat.le_of_ble_eq_true rfl, Or.inl (by show 194 < 150 + (mSz M + 7); omega)⟩ rfl (by decide) (by decide) rfl (Or.inr ⟨_, rfl⟩) rfl rfl rfl WF_X7_33 (hN _) rfl ?_
  refine x_aload_n (pc := 64) dX7_init_64 rfl ?_
  refine x_bipush (pc := 65) dX7_init_65 (by decide) ⟨by decide, by decide⟩ ?_
  refine x_newCI (N := 16) (c := 52) (K := 202) (by show mSz M + 7 = 52; omega) rfl (pc := 67) dX7_init_67 (by decide) rfl WA_int ?_
  refine x_putRF (t := 5) (j := 8) (pc := 69) dX7_init_69 ⟨Nat.le_of_ble_eq_true rfl, Or.inl (by show 194 < 150 + (mSz M + 8); omega)⟩ rfl (by decide) (by decide) rfl (Or.inr ⟨_, rfl⟩) rfl rfl rfl WF_X7_36 (hN _) rfl ?_
  cases hf
  exact x_retV (pc := 72) dX7_init_72
/- ('HexPond', '<init>', '()V') of 150 -/
def fX12_init (M : ax_M) : Option ax_M :=
  (bd1 (fX9_init (mAl M 7 2 2)) fun M102 => (if mSz M102 = 3 then (bd1 (fX10_init (mAl (mUR M102 150 0 (some 151)) 8 4 4)) fun M105 => (if mSz M105 = 7 then (bd1 (fX7_init_a (mAl (mUR M105 150 1 (some 153)) 5 10 10)) fun M108 => (if mSz M108 = 16 then (if mR (mAl (mUR M108 150 10 (some 157)) 2 4 4) 150 1 = some 153 then (if mR (mAl (mUR M108 150 10 (some 157)) 2 4 4) 150 10 = some 157 then (bd1 (fX3_init (mAl (mUR M108 150 10 (some 157)) 2 4 4)) fun M113 => (if mSz M113 = 17 then (if mR (mAl (mUR M113 150 2 (some 166)) 4 6 6) 150 1 = some 153 then (bd1 (fX6_init (mAl (mUR M113 150 2 (some 166)) 4 6 6)) fun M117 => (if mSz M117 = 19 then (bd1 (fX8_init (mAl (mUR M117 150 3 (some 167)) 6 10 10)) fun M120 => (if mSz M120 = 26 then (if mR (mAl (mUR M120 150 4 (some 169)) 3 6 6) 150 4 = some 169 then (bd1 (fX4_init (mAl (mUR M120 150 4 (some 169)) 3 6 6)) fun M124 => (if mSz M124 = 29 then (if mR (mAl (mUR M124 150 5 (some 176)) 0 5 5) 150 4 = some 169 then (bd1 (fX1_init (mAl (mUR M124 150 5 (some 176)) 0 5 5)) fun M128 => (if mSz M128 = 33 then (if mR (mAl (mUR M128 150 6 (some 179)) 9 7 7) 150 4 = some 169 then (bd1 (fX11_init (mAl (mUR M128 150 6 (some 179)) 9 7 7)) fun M132 => (if mSz M132 = 42 then (if mR (mAl (mUR M132 150 7 (some 183)) 1 5 5) 150 4 = some 169 then (if mR (mAl (mUR M132 150 7 (some 183)) 1 5 5) 150 6 = some 179 then (if mR (mAl (mUR M132 150 7 (some 183)) 1 5 5) 150 7 = some 183 then (bd1 (fX2_init (mAl (mUR M132 150 7 (some 183)) 1 5 5)) fun M138 => (if mSz M138 = 44 then (bd1 (fX7_init_b (mAl (mUR M138 150 8 (some 192)) 5 10 10)) fun M141 => (if mSz M141 = 53 then (some (mUI (mUR M141 150 9 (some 194)) 150 11 (-1))) else none)) else none)) else none) else none) else none) else none)) else none) else none)) else none) else none)) else none) else none)) else none)) else none) else none)) else none) else none) else none)) else none)) else none))
set_option maxRecDepth 20000 in
theorem T_X12_init {G : ax_G} {d : Nat} (hd : 4 ≤ d) (hN : ∀ k, gPh G k = false) (hmu : ax_Mul) {M : ax_M} (hz : mSz M = 1) {M1 : ax_M} (hf : fX12_init M = some M1) : ax_Ex G tX12_init d 0 (ax_args [vR 150] ++ List.replicate 0 none) [] M (.inl none) M1 := by
  show ax_Ex G tX12_init d 0 [some (vR 150)] [] M _ _
  unfold fX12_init at hf
  refine x_aload_n (pc := 0) dX12_init_0 rfl ?_
  refine x_objInit (pc := 1) dX12_init_1 WM_X12_3 WI_Object WK_Object (Nat.le_of_ble_eq_true rfl) (by omega) ?_
  refine x_aload_n (pc := 4) dX12_init_4 rfl ?_
  refine x_newC (t := 7) (c := 1) (K := 151) (by show mSz M = 1; omega) rfl (pc := 5) dX12_init_5 (by decide) rfl WC_X12_9 WB_X9 WN_X9 ?_
  refine x_dup (pc := 8) dX12_init_8 rfl ?_
  obtain ⟨M102, r101, hf⟩ := bd1_some hf
  refine x_cv (vs := [vR 151]) (rest := [vR 151, vR 150]) (k := 0) rfl (by omega) (ax_caIN (pc := 9) dX12_init_9 kX9_init rfl rfl rfl rfl NM_X12_11 WI_X9_init WN_X9 (Nat.le_of_ble_eq_true rfl)) kX9_init rfl True.intro (T_X9_init (by omega) hN hmu (by show mSz M + 1 = 2; omega) r101) ?_
  by_cases h103 : mSz M102 = 3
  · replace hf := (if_pos h103).symm.trans hf
    refine x_putRF (t := 10) (j := 0) (pc := 12) dX12_init_12 ⟨Nat.le_of_ble_eq_true rfl, Or.inl (by show 150 < 150 + mSz M102; omega)⟩ rfl (by decide) (by decide) rfl (Or.inl ⟨_, rfl⟩) rfl rfl rfl WF_X12_12 (hN _) rfl ?_
    refine x_aload_n (pc := 15) dX12_init_15 rfl ?_
    refine x_newC (t := 8) (c := 3) (K := 153) (by show mSz M102 = 3; omega) rfl (pc := 16) dX12_init_16 (by decide) rfl WC_X12_16 WB_X10 WN_X10 ?_
    refine x_dup (pc := 19) dX12_init_19 rfl ?_
    obtain ⟨M105, r104, hf⟩ := bd1_some hf
    refine x_cv (vs := [vR 153]) (rest := [vR 153, vR 150]) (k := 0) rfl (by omega) (ax_caIN (pc := 20) dX12_init_20 kX10_init rfl rfl rfl rfl NM_X12_18 WI_X10_init WN_X10 (Nat.le_of_ble_eq_true rfl)) kX10_init rfl True.intro (T_X10_init (by omega) hN hmu (by show mSz M102 + 1 = 4; omega) r104) ?_
    by_cases h106 : mSz M105 = 7
    · replace hf := (if_pos h106).symm.trans hf
      refine x_putRF (t := 10) (j := 1) (pc := 23) dX12_init_23 ⟨Nat.le_of_ble_eq_true rfl, Or.inl (by show 150 < 150 + mSz M105; omega)⟩ rfl (by decide) (by decide) rfl (Or.inl ⟨_, rfl⟩) rfl rfl rfl WF_X12_19 (hN _) rfl ?_
      refine x_aload_n (pc := 26) dX12_init_26 rfl ?_
      refine x_newC (t := 5) (c := 7) (K := 157) (by show mSz M105 = 7; omega) rfl (pc := 27) dX12_init_27 (by decide) rfl WC_X12_23 WB_X7 WN_X7 ?_
      refine x_dup (pc := 30) dX12_init_30 rfl ?_
      obtain ⟨M108, r107, hf⟩ := bd1_some hf
      refine x_cv (vs := [vR 157]) (rest := [vR 157, vR 150]) (k := 0) rfl (by omega) (ax_caIN (pc := 31) dX12_init_31 kX7_init rfl rfl rfl rfl NM_X12_25 WI_X7_init WN_X7 (Nat.le_of_ble_eq_true rfl)) kX7_init rfl True.intro (T_X7_init_a (by omega) hN hmu (by show mSz M105 + 1 = 8; omega) r107) ?_
      by_cases h109 : mSz M108 = 16
      · replace hf := (if_pos h109).symm.trans hf
        refine x_putR (t := 10) (j := 10) (pc := 34) dX12_init_34 ⟨Nat.le_of_ble_eq_true rfl, Or.inl (by show 150 < 150 + mSz M108; omega)⟩ rfl (by decide) (by decide) rfl ⟨_, rfl⟩ rfl WF_X12_26 (fun q => by rw [hN] at q; cases q) rfl ?_
        refine x_aload_n (pc := 37) dX12_init_37 rfl ?_
        refine x_newC (t := 2) (c := 16) (K := 166) (by show mSz M108 = 16; omega) rfl (pc := 38) dX12_init_38 (by decide) rfl WC_X12_30 WB_X3 WN_X3 ?_
        refine x_dup (pc := 41) dX12_init_41 rfl ?_
        refine x_aload_n (pc := 42) dX12_init_42 rfl ?_
        by_cases h110 : mR (mAl (mUR M108 150 10 (some 157)) 2 4 4) 150 1 = some 153
        · replace hf := (if_pos h110).symm.trans hf
          refine x_getRq h110 (t := 10) (j := 1) (pc := 43) dX12_init_43 ⟨Nat.le_of_ble_eq_true rfl, Or.inl (by show 150 < 150 + (mSz M108 + 1); omega)⟩ rfl (by decide) (by decide) rfl WF_X12_19 ?_
          refine x_aload_n (pc := 46) dX12_init_46 rfl ?_
          by_cases h111 : mR (mAl (mUR M108 150 10 (some 157)) 2 4 4) 150 10 = some 157
          · replace hf := (if_pos h111).symm.trans hf
            refine x_getRq h111 (t := 10) (j := 10) (pc := 47) dX12_init_47 ⟨Nat.le_of_ble_eq_true rfl, Or.inl (by show 150 < 150 + (mSz M108 + 1); omega)⟩ rfl (by decide) (by decide) rfl WF_X12_26 ?_
            obtain ⟨M113, r112, hf⟩ := bd1_some hf
            refine x_cv (vs := [vR 166, vR 153, vR 157]) (rest := [vR 166, vR 150]) (k := 0) rfl (by omega) (ax_caI (pc := 50) dX12_init_50 kX3_init rfl rfl rfl rfl WM_X12_32 WI_X3_init WN_X3 (Nat.le_of_ble_eq_true rfl)) kX3_init rfl True.intro (T_X3_init (by omega) hN hmu (by show mSz M108 + 1 = 17; omega) r112) ?_
            by_cases h114 : mSz M113 = 17
            · replace hf := (if_pos h114).symm.trans hf
              refine x_putRF (t := 10) (j := 2) (pc := 53) dX12_init_53 ⟨Nat.le_of_ble_eq_true rfl, Or.inl (by show 150 < 150 + mSz M113; omega)⟩ rfl (by decide) (by decide) rfl (Or.inl ⟨_, rfl⟩) rfl rfl rfl WF_X12_35 (hN _) rfl ?_
              refine x_aload_n (pc := 56) dX12_init_56 rfl ?_
              refine x_newC (t := 4) (c := 17) (K := 167) (by show mSz M113 = 17; omega) rfl (pc := 57) dX12_init_57 (by decide) rfl WC_X12_39 WB_X6 WN_X6 ?_
              refine x_dup (pc := 60) dX12_init_60 rfl ?_
              refine x_aload_n (pc := 61) dX12_init_61 rfl ?_
              by_cases h115 : mR (mAl (mUR M113 150 2 (some 166)) 4 6 6) 150 1 = some 153
              · replace hf := (if_pos h115).symm.trans hf
                refine x_getRq h115 (t := 10) (j := 1) (pc := 62) dX12_init_62 ⟨Nat.le_of_ble_eq_true rfl, Or.inl (by show 150 < 150 + (mSz M113 + 1); omega)⟩ rfl (by decide) (by decide) rfl WF_X12_19 ?_
                obtain ⟨M117, r116, hf⟩ := bd1_some hf
                refine x_cv (vs := [vR 167, vR 153]) (rest := [vR 167, vR 150]) (k := 0) rfl (by omega) (ax_caI (pc := 65) dX12_init_65 kX6_init rfl rfl rfl rfl WM_X12_41 WI_X6_init WN_X6 (Nat.le_of_ble_eq_true rfl)) kX6_init rfl True.intro (T_X6_init (by omega) hN hmu (by show mSz M113 + 1 = 18; omega) r116) ?_
                by_cases h118 : mSz M117 = 19
                · replace hf := (if_pos h118).symm.trans hf
                  refine x_putRF (t := 10) (j := 3) (pc := 68) dX12_init_68 ⟨Nat.le_of_ble_eq_true rfl, Or.inl (by show 150 < 150 + mSz M117; omega)⟩ rfl (by decide) (by decide) rfl (Or.inl ⟨_, rfl⟩) rfl rfl rfl WF_X12_44 (hN _) rfl ?_
                  refine x_aload_n (pc := 71) dX12_init_71 rfl ?_
                  refine x_newC (t := 6) (c := 19) (K := 169) (by show mSz M117 = 19; omega) rfl (pc := 72) dX12_init_72 (by decide) rfl WC_X12_48 WB_X8 WN_X8 ?_
                  refine x_dup (pc := 75) dX12_init_75 rfl ?_
                  obtain ⟨M120, r119, hf⟩ := bd1_some hf
                  refine x_cv (vs := [vR 169]) (rest := [vR 169, vR 150]) (k := 0) rfl (by omega) (ax_caI (pc := 76) dX12_init_76 kX8_init rfl rfl rfl rfl WM_X12_50 WI_X8_init WN_X8 (Nat.le_of_ble_eq_true rfl)) kX8_init rfl True.intro (T_X8_init (by omega) hN hmu (by show mSz M117 + 1 = 20; omega) r119) ?_
                  by_cases h121 : mSz M120 = 26
                  · replace hf := (if_pos h121).symm.trans hf
                    refine x_putRF (t := 10) (j := 4) (pc := 79) dX12_init_79 ⟨Nat.le_of_ble_eq_true rfl, Or.inl (by show 150 < 150 + mSz M120; omega)⟩ rfl (by decide) (by decide) rfl (Or.inl ⟨_, rfl⟩) rfl rfl rfl WF_X12_51 (hN _) rfl ?_
                    refine x_aload_n (pc := 82) dX12_init_82 rfl ?_
                    refine x_newC (t := 3) (c := 26) (K := 176) (by show mSz M120 = 26; omega) rfl (pc := 83) dX12_init_83 (by decide) rfl WC_X12_55 WB_X4 WN_X4 ?_
                    refine x_dup (pc := 86) dX12_init_86 rfl ?_
                    refine x_aload_n (pc := 87) dX12_init_87 rfl ?_
                    by_cases h122 : mR (mAl (mUR M120 150 4 (some 169)) 3 6 6) 150 4 = some 169
                    · replace hf := (if_pos h122).symm.trans hf
                      refine x_getRq h122 (t := 10) (j := 4) (pc := 88) dX12_init_88 ⟨Nat.le_of_ble_eq_true rfl, Or.inl (by show 150 < 150 + (mSz M120 + 1); omega)⟩ rfl (by decide) (by decide) rfl WF_X12_51 ?_
                      obtain ⟨M124, r123, hf⟩ := bd1_some hf
                      refine x_cv (vs := [vR 176, vR 169]) (rest := [vR 176, vR 150]) (k := 0) rfl (by omega) (ax_caI (pc := 91) dX12_init_91 kX4_init rfl rfl rfl rfl WM_X12_57 WI_X4_init WN_X4 (Nat.le_of_ble_eq_true rfl)) kX4_init rfl True.intro (T_X4_init (by omega) hN hmu (by show mSz M120 + 1 = 27; omega) r123) ?_
                      by_cases h125 : mSz M124 = 29
                      · replace hf := (if_pos h125).symm.trans hf
                        refine x_putRF (t := 10) (j := 5) (pc := 94) dX12_init_94 ⟨Nat.le_of_ble_eq_true rfl, Or.inl (by show 150 < 150 + mSz M124; omega)⟩ rfl (by decide) (by decide) rfl (Or.inl ⟨_, rfl⟩) rfl rfl rfl WF_X12_60 (hN _) rfl ?_
                        refine x_aload_n (pc := 97) dX12_init_97 rfl ?_
                        refine x_newC (t := 0) (c := 29) (K := 179) (by show mSz M124 = 29; omega) rfl (pc := 98) dX12_init_98 (by decide) rfl WC_X12_64 WB_X1 WN_X1 ?_
                        refine x_dup (pc := 101) dX12_init_101 rfl ?_
                        refine x_aload_n (pc := 102) dX12_init_102 rfl ?_
                        by_cases h126 : mR (mAl (mUR M124 150 5 (some 176)) 0 5 5) 150 4 = some 169
                        · replace hf := (if_pos h126).symm.trans hf
                          refine x_getRq h126 (t := 10) (j := 4) (pc := 103) dX12_init_103 ⟨Nat.le_of_ble_eq_true rfl, Or.inl (by show 150 < 150 + (mSz M124 + 1); omega)⟩ rfl (by decide) (by decide) rfl WF_X12_51 ?_
                          obtain ⟨M128, r127, hf⟩ := bd1_some hf
                          refine x_cv (vs := [vR 179, vR 169]) (rest := [vR 179, vR 150]) (k := 0) rfl (by omega) (ax_caI (pc := 106) dX12_init_106 kX1_init rfl rfl rfl rfl WM_X12_66 WI_X1_init WN_X1 (Nat.le_of_ble_eq_true rfl)) kX1_init rfl True.intro (T_X1_init (by omega) hN hmu (by show mSz M124 + 1 = 30; omega) r127) ?_
                          by_cases h129 : mSz M128 = 33
                          · replace hf := (if_pos h129).symm.trans hf
                            refine x_putRF (t := 10) (j := 6) (pc := 109) dX12_init_109 ⟨Nat.le_of_ble_eq_true rfl, Or.inl (by show 150 < 150 + mSz M128; omega)⟩ rfl (by decide) (by decide) rfl (Or.inl ⟨_, rfl⟩) rfl rfl rfl WF_X12_67 (hN _) rfl ?_
                            refine x_aload_n (pc := 112) dX12_init_112 rfl ?_
                            refine x_newC (t := 9) (c := 33) (K := 183) (by show mSz M128 = 33; omega) rfl (pc := 113) dX12_init_113 (by decide) rfl WC_X12_71 WB_X11 WN_X11 ?_
                            refine x_dup (pc := 116) dX12_init_116 rfl ?_
                            refine x_aload_n (pc := 117) dX12_init_117 rfl ?_
                            by_cases h130 : mR (mAl (mUR M128 150 6 (some 179)) 9 7 7) 150 4 = some 169
                            · replace hf := (if_pos h130).symm.trans hf
                              refine x_getRq h130 (t := 10) (j := 4) (pc := 118) dX12_init_118 ⟨Nat.le_of_ble_eq_true rfl, Or.inl (by show 150 < 150 + (mSz M128 + 1); omega)⟩ rfl (by decide) (by decide) rfl WF_X12_51 ?_
                              obtain ⟨M132, r131, hf⟩ := bd1_some hf
                              refine x_cv (vs := [vR 183, vR 169]) (rest := [vR 183, vR 150]) (k := 0) rfl (by omega) (ax_caI (pc := 121) dX12_init_121 kX11_init rfl rfl rfl rfl WM_X12_73 WI_X11_init WN_X11 (Nat.le_of_ble_eq_true rfl)) kX11_init rfl True.intro (T_X11_init (by omega) hN hmu (by show mSz M128 + 1 = 34; omega) r131) ?_
                              by_cases h133 : mSz M132 = 42
                              · replace hf := (if_pos h133).symm.trans hf
                                refine x_putRF (t := 10) (j := 7) (pc := 124) dX12_init_124 ⟨Nat.le_of_ble_eq_true rfl, Or.inl (by show 150 < 150 + mSz M132; omega)⟩ rfl (by decide) (by decide) rfl (Or.inl ⟨_, rfl⟩) rfl rfl rfl WF_X12_74 (hN _) rfl ?_
                                refine x_aload_n (pc := 127) dX12_init_127 rfl ?_
                                refine x_newC (t := 1) (c := 42) (K := 192) (by show mSz M132 = 42; omega) rfl (pc := 128) dX12_init_128 (by decide) rfl WC_X12_78 WB_X2 WN_X2 ?_
                                refine x_dup (pc := 131) dX12_init_131 rfl ?_
                                refine x_aload_n (pc := 132) dX12_init_132 rfl ?_
                                by_cases h134 : mR (mAl (mUR M132 150 7 (some 183)) 1 5 5) 150 4 = some 169
                                · replace hf := (if_pos h134).symm.trans hf
                                  refine x_getRq h134 (t := 10) (j := 4) (pc := 133) dX12_init_133 ⟨Nat.le_of_ble_eq_true rfl, Or.inl (by show 150 < 150 + (mSz M132 + 1); omega)⟩ rfl (by decide) (by decide) rfl WF_X12_51 ?_
                                  refine x_aload_n (pc := 136) dX12_init_136 rfl ?_
                                  by_cases h135 : mR (mAl (mUR M132 150 7 (some 183)) 1 5 5) 150 6 = some 179
                                  · replace hf := (if_pos h135).symm.trans hf
                                    refine x_getRq h135 (t := 10) (j := 6) (pc := 137) dX12_init_137 ⟨Nat.le_of_ble_eq_true rfl, Or.inl (by show 150 < 150 + (mSz M132 + 1); omega)⟩ rfl (by decide) (by decide) rfl WF_X12_67 ?_
                                    refine x_aload_n (pc := 140) dX12_init_140 rfl ?_
                                    by_cases h136 : mR (mAl (mUR M132 150 7 (some 183)) 1 5 5) 150 7 = some 183
                                    · replace hf := (if_pos h136).symm.trans hf
                                      refine x_getRq h136 (t := 10) (j := 7) (pc := 141) dX12_init_141 ⟨Nat.le_of_ble_eq_true rfl, Or.inl (by show 150 < 150 + (mSz M132 + 1); omega)⟩ rfl (by decide) (by decide) rfl WF_X12_74 ?_
                                      obtain ⟨M138, r137, hf⟩ := bd1_some hf
                                      refine x_cv (vs := [vR 192, vR 169, vR 179, vR 183]) (rest := [vR 192, vR 150]) (k := 0) rfl (by omega) (ax_caI (pc := 144) dX12_init_144 kX2_init rfl rfl rfl rfl WM_X12_80 WI_X2_init WN_X2 (Nat.le_of_ble_eq_true rfl)) kX2_init rfl True.intro (T_X2_init (by omega) hN hmu (by show mSz M132 + 1 = 43; omega) r137) ?_
                                      by_cases h139 : mSz M138 = 44
                                      · replace hf := (if_pos h139).symm.trans hf
                                        refine x_putRF (t := 10) (j := 8) (pc := 147) dX12_init_147 ⟨Nat.le_of_ble_eq_true rfl, Or.inl (by show 150 < 150 + mSz M138; omega)⟩ rfl (by decide) (by decide) rfl (Or.inl ⟨_, rfl⟩) rfl rfl rfl WF_X12_83 (hN _) rfl ?_
                                        refine x_aload_n (pc := 150) dX12_init_150 rfl ?_
                                        refine x_newC (t := 5) (c := 44) (K := 194) (by show mSz M138 = 44; omega) rfl (pc := 151) dX12_init_151 (by decide) rfl WC_X12_23 WB_X7 WN_X7 ?_
                                        refine x_dup (pc := 154) dX12_init_154 rfl ?_
                                        obtain ⟨M141, r140, hf⟩ := bd1_some hf
                                        refine x_cv (vs := [vR 194]) (rest := [vR 194, vR 150]) (k := 0) rfl (by omega) (ax_caIN (pc := 155) dX12_init_155 kX7_init rfl rfl rfl rfl NM_X12_25 WI_X7_init WN_X7 (Nat.le_of_ble_eq_true rfl)) kX7_init rfl True.intro (T_X7_init_b (by omega) hN hmu (by show mSz M138 + 1 = 45; omega) r140) ?_
                                        by_cases h142 : mSz M141 = 53
                                        · replace hf := (if_pos h142).symm.trans hf
                                          refine x_putR (t := 10) (j := 9) (pc := 158) dX12_init_158 ⟨Nat.le_of_ble_eq_true rfl, Or.inl (by show 150 < 150 + mSz M141; omega)⟩ rfl (by decide) (by decide) rfl ⟨_, rfl⟩ rfl WF_X12_87 (fun q => by rw [hN] at q; cases q) rfl ?_
                                          refine x_aload_n (pc := 161) dX12_init_161 rfl ?_
                                          refine x_iconst (pc := 162) dX12_init_162 ⟨by decide, by decide⟩ ?_
                                          refine x_putI (t := 10) (j := 11) (pc := 163) dX12_init_163 ⟨Nat.le_of_ble_eq_true rfl, Or.inl (by show 150 < 150 + mSz M141; omega)⟩ rfl (by decide) (by decide) rfl rfl WF_X12_90 ?_
                                          cases hf
                                          exact x_retV (pc := 166) dX12_init_166
                                        · replace hf := (if_neg h142).symm.trans hf
                                          cases hf
                                      · replace hf := (if_neg h139).symm.trans hf
                                        cases hf
                                    · replace hf := (if_neg h136).symm.trans hf
                                      cases hf
                                  · replace hf := (if_neg h135).symm.trans hf
                                    cases hf
                                · replace hf := (if_neg h134).symm.trans hf
                                  cases hf
                              · replace hf := (if_neg h133).symm.trans hf
                                cases hf
                            · replace hf := (if_neg h130).symm.trans hf
                              cases hf
                          · replace hf := (if_neg h129).symm.trans hf
                            cases hf
                        · replace hf := (if_neg h126).symm.trans hf
                          cases hf
                      · replace hf := (if_neg h125).symm.trans hf
                        cases hf
                    · replace hf := (if_neg h122).symm.trans hf
                      cases hf
                  · replace hf := (if_neg h121).symm.trans hf
                    cases hf
                · replace hf := (if_neg h118).symm.trans hf
                  cases hf
              · replace hf := (if_neg h115).symm.trans hf
                cases hf
            · replace hf := (if_neg h114).symm.trans hf
              cases hf
          · replace hf := (if_neg h111).symm.trans hf
            cases hf
        · replace hf := (if_neg h110).symm.trans hf
          cases hf
      · replace hf := (if_neg h109).symm.trans hf
        cases hf
    · replace hf := (if_neg h106).symm.trans hf
      cases hf
  · replace hf := (if_neg h103).symm.trans hf
    cases hf
/- ('HexPondModel$Told', '<init>', '()V') of 208 -/
def fX13_init_a (M : ax_M) : Option ax_M :=
  (some (mUR (mAl (mUR (mAl (mUR (mAl (mUR (mAl (mUR (mAl (mUR (mAl (mUR (mAl (mUR (mAl (mUR (mAl (mUR (mAl (mUR (mAl (mUI (mUI M 208 0 7) 208 1 7) 32 81 81) 208 2 (some 209)) 32 17 17) 208 4 (some 210)) 32 17 17) 208 5 (some 211)) 32 17 17) 208 6 (some 212)) 32 17 17) 208 7 (some 213)) 32 17 17) 208 8 (some 214)) 32 17 17) 208 9 (some 215)) 32 17 17) 208 10 (some 216)) 32 800 800) 208 12 (some 217)) 32 800 800) 208 13 (some 218)) 32 800 800) 208 14 (some 219)))
set_option maxRecDepth 20000 in
theorem T_X13_init_a {G : ax_G} {d : Nat} (hd : 1 ≤ d) (hN : ∀ k, gPh G k = false) (hmu : ax_Mul) {M : ax_M} (hz : mSz M = 59) {M1 : ax_M} (hf : fX13_init_a M = some M1) : ax_Ex G tX13_init d 0 (ax_args [vR 208] ++ List.replicate 0 none) [] M (.inl none) M1 := by
  show ax_Ex G tX13_init d 0 [some (vR 208)] [] M _ _
  unfold fX13_init_a at hf
  refine x_aload_n (pc := 0) dX13_init_0 rfl ?_
  refine x_objInit (pc := 1) dX13_init_1 WM_X13_3 WI_Object WK_Object (Nat.le_of_ble_eq_true rfl) (by omega) ?_
  refine x_aload_n (pc := 4) dX13_init_4 rfl ?_
  refine x_bipush (pc := 5) dX13_init_5 (by decide) ⟨by decide, by decide⟩ ?_
  refine x_putI (t := 11) (j := 0) (pc := 7) dX13_init_7 ⟨Nat.le_of_ble_eq_true rfl, Or.inl (by show 208 < 150 + mSz M; omega)⟩ rfl (by decide) (by decide) rfl rfl WF_X13_9 ?_
  refine x_aload_n (pc := 10) dX13_init_10 rfl ?_
  refine x_bipush (pc := 11) dX13_init_11 (by decide) ⟨by decide, by decide⟩ ?_
  refine x_putI (t := 11) (j := 1) (pc := 13) dX13_init_13 ⟨Nat.le_of_ble_eq_true rfl, Or.inl (by show 208 < 150 + mSz M; omega)⟩ rfl (by decide) (by decide) rfl rfl WF_X13_15 ?_
  refine x_aload_n (pc := 16) dX13_init_16 rfl ?_
  refine x_bipush (pc := 17) dX13_init_17 (by decide) ⟨by decide, by decide⟩ ?_
  refine x_newCI (N := 81) (c := 59) (K := 209) (by show mSz M = 59; omega) rfl (pc := 19) dX13_init_19 (by decide) rfl WA_int ?_
  refine x_putRF (t := 11) (j := 2) (pc := 21) dX13_init_21 ⟨Nat.le_of_ble_eq_true rfl, Or.inl (by show 208 < 150 + (mSz M + 1); omega)⟩ rfl (by decide) (by decide) rfl (Or.inr ⟨_, rfl⟩) rfl rfl rfl WF_X13_18 (hN _) rfl ?_
  refine x_aload_n (pc := 24) dX13_init_24 rfl ?_
  refine x_bipush (pc := 25) dX13_init_25 (by decide) ⟨by decide, by decide⟩ ?_
  refine x_newCI (N := 17) (c := 60) (K := 210) (by show mSz M + 1 = 60; omega) rfl (pc := 27) dX13_init_27 (by decide) rfl WA_int ?_
  refine x_putRF (t := 11) (j := 4) (pc := 29) dX13_init_29 ⟨Nat.le_of_ble_eq_true rfl, Or.inl (by show 208 < 150 + (mSz M + 2); omega)⟩ rfl (by decide) (by decide) rfl (Or.inr ⟨_, rfl⟩) rfl rfl rfl WF_X13_22 (hN _) rfl ?_
  refine x_aload_n (pc := 32) dX13_init_32 rfl ?_
  refine x_bipush (pc := 33) dX13_init_33 (by decide) ⟨by decide, by decide⟩ ?_
  refine x_newCI (N := 17) (c := 61) (K := 211) (by show mSz M + 2 = 61; omega) rfl (pc := 35) dX13_init_35 (by decide) rfl WA_int ?_
  refine x_putRF (t := 11) (j := 5) (pc := 37) dX13_init_37 ⟨Nat.le_of_ble_eq_true rfl, Or.inl (by show 208 < 150 + (mSz M + 3); omega)⟩ rfl (by decide) (by decide) rfl (Or.inr ⟨_, rfl⟩) rfl rfl rfl WF_X13_25 (hN _) rfl ?_
  refine x_aload_n (pc := 40) dX13_init_40 rfl ?_
  refine x_bipush (pc := 41) dX13_init_41 (by decide) ⟨by decide, by decide⟩ ?_
  refine x_newCI (N := 17) (c := 62) (K := 212) (by show mSz M + 3 = 62; omega) rfl (pc := 43) dX13_init_43 (by decide) rfl WA_int ?_
  refine x_putRF (t := 11) (j := 6) (pc := 45) dX13_init_45 ⟨Nat.le_of_ble_eq_true rfl, Or.inl (by show 208 < 150 + (mSz M + 4); omega)⟩ rfl (by decide) (by decide) rfl (Or.inr ⟨_, rfl⟩) rfl rfl rfl WF_X13_28 (hN _) rfl ?_
  refine x_aload_n (pc := 48) dX13_init_48 rfl ?_
  refine x_bipush (pc := 49) dX13_init_49 (by decide) ⟨by decide, by decide⟩ ?_
  refine x_newCI (N := 17) (c := 63) (K := 213) (by show mSz M + 4 = 63; omega) rfl (pc := 51) dX13_init_51 (by decide) rfl WA_int ?_
  refine x_putRF (t := 11) (j := 7) (pc := 53) dX13_init_53 ⟨Nat.le_of_ble_eq_true rfl, Or.inl (by show 208 < 150 + (mSz M + 5); omega)⟩ rfl (by decide) (by decide) rfl (Or.inr ⟨_, rfl⟩) rfl rfl rfl WF_X13_31 (hN _) rfl ?_
  refine x_aload_n (pc := 56) dX13_init_56 rfl ?_
  refine x_bipush (pc := 57) dX13_init_57 (by decide) ⟨by decide, by decide⟩ ?_
  refine x_newCI (N := 17) (c := 64) (K := 214) (by show mSz M + 5 = 64; omega) rfl (pc := 59) dX13_init_59 (by decide) rfl WA_int ?_
  refine x_putRF (t := 11) (j := 8) (pc := 61) dX13_init_61 ⟨Nat.le_of_ble_eq_true rfl, Or.inl (by show 208 < 150 + (mSz M + 6); omega)⟩ rfl (by decide) (by decide) rfl (Or.inr ⟨_, rfl⟩) rfl rfl rfl WF_X13_34 (hN _) rfl ?_
  refine x_aload_n (pc := 64) dX13_init_64 rfl ?_
  refine x_bipush (pc := 65) dX13_init_65 (by decide) ⟨by decide, by decide⟩ ?_
  refine x_newCI (N := 17) (c := 65) (K := 215) (by show mSz M + 6 = 65; omega) rfl (pc := 67) dX13_init_67 (by decide) rfl WA_int ?_
  refine x_putRF (t := 11) (j := 9) (pc := 69) dX13_init_69 ⟨Nat.le_of_ble_eq_true rfl, Or.inl (by show 208 < 150 + (mSz M + 7); omega)⟩ rfl (by decide) (by decide) rfl (Or.inr ⟨_, rfl⟩) rfl rfl rfl WF_X13_37 (hN _) rfl ?_
  refine x_aload_n (pc := 72) dX13_init_72 rfl ?_
  refine x_bipush (pc := 73) dX13_init_73 (by decide) ⟨by decide, by decide⟩ ?_
  refine x_newCI (N := 17) (c := 66) (K := 216) (by show mSz M + 7 = 66; omega) rfl (pc := 75) dX13_init_75 (by decide) rfl WA_int ?_
  refine x_putRF (t := 11) (j := 10) (pc := 77) dX13_init_77 ⟨Nat.le_of_ble_eq_true rfl, Or.inl (by show 208 < 150 + (mSz M + 8); omega)⟩ rfl (by decide) (by decide) rfl (Or.inr ⟨_, rfl⟩) rfl rfl rfl WF_X13_40 (hN _) rfl ?_
  refine x_aload_n (pc := 80) dX13_init_80 rfl ?_
  refine x_sipush (pc := 81) dX13_init_81 (by decide) ⟨by decide, by decide⟩ ?_
  refine x_newCI (N := 800) (c := 67) (K := 217) (by show mSz M + 8 = 67; omega) rfl (pc := 84) dX13_init_84 (by decide) rfl WA_int ?_
  refine x_putRF (t := 11) (j := 12) (pc := 86) dX13_init_86 ⟨Nat.le_of_ble_eq_true rfl, Or.inl (by show 208 < 150 + (mSz M + 9); omega)⟩ rfl (by decide) (by decide) rfl (Or.inr ⟨_, rfl⟩) rfl rfl rfl WF_X13_43 (hN _) rfl ?_
  refine x_aload_n (pc := 89) dX13_init_89 rfl ?_
  refine x_sipush (pc := 90) dX13_init_90 (by decide) ⟨by decide, by decide⟩ ?_
  refine x_newCI (N := 800) (c := 68) (K := 218) (by show mSz M + 9 = 68; omega) rfl (pc := 93) dX13_init_93 (by decide) rfl WA_int ?_
  refine x_putRF (t := 11) (j := 13) (pc := 95) dX13_init_95 ⟨Nat.le_of_ble_eq_true rfl, Or.inl (by show 208 < 150 + (mSz M + 10); omega)⟩ rfl (by decide) (by decide) rfl (Or.inr ⟨_, rfl⟩) rfl rfl rfl WF_X13_46 (hN _) rfl ?_
  refine x_aload_n (pc := 98) dX13_init_98 rfl ?_
  refine x_sipush (pc := 99) dX13_init_99 (by decide) ⟨by decide, by decide⟩ ?_
  refine x_newCI (N := 800) (c := 69) (K := 219) (by show mSz M + 10 = 69; omega) rfl (pc := 102) dX13_init_102 (by decide) rfl WA_int ?_
  refine x_putRF (t := 11) (j := 14) (pc := 104) dX13_init_104 ⟨Nat.le_of_ble_eq_true rfl, Or.inl (by show 208 < 150 + (mSz M + 11); omega)⟩ rfl (by decide) (by decide) rfl (Or.inr ⟨_, rfl⟩) rfl rfl rfl WF_X13_49 (hN _) rfl ?_
  cases hf
  exact x_retV (pc := 107) dX13_init_107
/- ('HexPondModel$Told', '<init>', '()V') of 220 -/
def fX13_init_b (M : ax_M) : Option ax_M :=
  (some (mUR (mAl (mUR (mAl (mUR (mAl (mUR (mAl (mUR (mAl (mUR (mAl (mUR (mAl (mUR (mAl (mUR (mAl (mUR (mAl (mUR (mAl (mUI (mUI M 220 0 7) 220 1 7) 32 81 81) 220 2 (some 221)) 32 17 17) 220 4 (some 222)) 32 17 17) 220 5 (some 223)) 32 17 17) 220 6 (some 224)) 32 17 17) 220 7 (some 225)) 32 17 17) 220 8 (some 226)) 32 17 17) 220 9 (some 227)) 32 17 17) 220 10 (some 228)) 32 800 800) 220 12 (some 229)) 32 800 800) 220 13 (some 230)) 32 800 800) 220 14 (some 231)))
set_option maxRecDepth 20000 in
theorem T_X13_init_b {G : ax_G} {d : Nat} (hd : 1 ≤ d) (hN : ∀ k, gPh G k = false) (hmu : ax_Mul) {M : ax_M} (hz : mSz M = 71) {M1 : ax_M} (hf : fX13_init_b M = some M1) : ax_Ex G tX13_init d 0 (ax_args [vR 220] ++ List.replicate 0 none) [] M (.inl none) M1 := by
  show ax_Ex G tX13_init d 0 [some (vR 220)] [] M _ _
  unfold fX13_init_b at hf
  refine x_aload_n (pc := 0) dX13_init_0 rfl ?_
  refine x_objInit (pc := 1) dX13_init_1 WM_X13_3 WI_Object WK_Object (Nat.le_of_ble_eq_true rfl) (by omega) ?_
  refine x_aload_n (pc := 4) dX13_init_4 rfl ?_
  refine x_bipush (pc := 5) dX13_init_5 (by decide) ⟨by decide, by decide⟩ ?_
  refine x_putI (t := 11) (j := 0) (pc := 7) dX13_init_7 ⟨Nat.le_of_ble_eq_true rfl, Or.inl (by show 220 < 150 + mSz M; omega)⟩ rfl (by decide) (by decide) rfl rfl WF_X13_9 ?_
  refine x_aload_n (pc := 10) dX13_init_10 rfl ?_
  refine x_bipush (pc := 11) dX13_init_11 (by decide) ⟨by decide, by decide⟩ ?_
  refine x_putI (t := 11) (j := 1) (pc := 13) dX13_init_13 ⟨Nat.le_of_ble_eq_true rfl, Or.inl (by show 220 < 150 + mSz M; omega)⟩ rfl (by decide) (by decide) rfl rfl WF_X13_15 ?_
  refine x_aload_n (pc := 16) dX13_init_16 rfl ?_
  refine x_bipush (pc := 17) dX13_init_17 (by decide) ⟨by decide, by decide⟩ ?_
  refine x_newCI (N := 81) (c := 71) (K := 221) (by show mSz M = 71; omega) rfl (pc := 19) dX13_init_19 (by decide) rfl WA_int ?_
  refine x_putRF (t := 11) (j := 2) (pc := 21) dX13_init_21 ⟨Nat.le_of_ble_eq_true rfl, Or.inl (by show 220 < 150 + (mSz M + 1); omega)⟩ rfl (by decide) (by decide) rfl (Or.inr ⟨_, rfl⟩) rfl rfl rfl WF_X13_18 (hN _) rfl ?_
  refine x_aload_n (pc := 24) dX13_init_24 rfl ?_
  refine x_bipush (pc := 25) dX13_init_25 (by decide) ⟨by decide, by decide⟩ ?_
  refine x_newCI (N := 17) (c := 72) (K := 222) (by show mSz M + 1 = 72; omega) rfl (pc := 27) dX13_init_27 (by decide) rfl WA_int ?_
  refine x_putRF (t := 11) (j := 4) (pc := 29) dX13_init_29 ⟨Nat.le_of_ble_eq_true rfl, Or.inl (by show 220 < 150 + (mSz M + 2); omega)⟩ rfl (by decide) (by decide) rfl (Or.inr ⟨_, rfl⟩) rfl rfl rfl WF_X13_22 (hN _) rfl ?_
  refine x_aload_n (pc := 32) dX13_init_32 rfl ?_
  refine x_bipush (pc := 33) dX13_init_33 (by decide) ⟨by decide, by decide⟩ ?_
  refine x_newCI (N := 17) (c := 73) (K := 223) (by show mSz M + 2 = 73; omega) rfl (pc := 35) dX13_init_35 (by decide) rfl WA_int ?_
  refine x_putRF (t := 11) (j := 5) (pc := 37) dX13_init_37 ⟨Nat.le_of_ble_eq_true rfl, Or.inl (by show 220 < 150 + (mSz M + 3); omega)⟩ rfl (by decide) (by decide) rfl (Or.inr ⟨_, rfl⟩) rfl rfl rfl WF_X13_25 (hN _) rfl ?_
  refine x_aload_n (pc := 40) dX13_init_40 rfl ?_
  refine x_bipush (pc := 41) dX13_init_41 (by decide) ⟨by decide, by decide⟩ ?_
  refine x_newCI (N := 17) (c := 74) (K := 224) (by show mSz M + 3 = 74; omega) rfl (pc := 43) dX13_init_43 (by decide) rfl WA_int ?_
  refine x_putRF (t := 11) (j := 6) (pc := 45) dX13_init_45 ⟨Nat.le_of_ble_eq_true rfl, Or.inl (by show 220 < 150 + (mSz M + 4); omega)⟩ rfl (by decide) (by decide) rfl (Or.inr ⟨_, rfl⟩) rfl rfl rfl WF_X13_28 (hN _) rfl ?_
  refine x_aload_n (pc := 48) dX13_init_48 rfl ?_
  refine x_bipush (pc := 49) dX13_init_49 (by decide) ⟨by decide, by decide⟩ ?_
  refine x_newCI (N := 17) (c := 75) (K := 225) (by show mSz M + 4 = 75; omega) rfl (pc := 51) dX13_init_51 (by decide) rfl WA_int ?_
  refine x_putRF (t := 11) (j := 7) (pc := 53) dX13_init_53 ⟨Nat.le_of_ble_eq_true rfl, Or.inl (by show 220 < 150 + (mSz M + 5); omega)⟩ rfl (by decide) (by decide) rfl (Or.inr ⟨_, rfl⟩) rfl rfl rfl WF_X13_31 (hN _) rfl ?_
  refine x_aload_n (pc := 56) dX13_init_56 rfl ?_
  refine x_bipush (pc := 57) dX13_init_57 (by decide) ⟨by decide, by decide⟩ ?_
  refine x_newCI (N := 17) (c := 76) (K := 226) (by show mSz M + 5 = 76; omega) rfl (pc := 59) dX13_init_59 (by decide) rfl WA_int ?_
  refine x_putRF (t := 11) (j := 8) (pc := 61) dX13_init_61 ⟨Nat.le_of_ble_eq_true rfl, Or.inl (by show 220 < 150 + (mSz M + 6); omega)⟩ rfl (by decide) (by decide) rfl (Or.inr ⟨_, rfl⟩) rfl rfl rfl WF_X13_34 (hN _) rfl ?_
  refine x_aload_n (pc := 64) dX13_init_64 rfl ?_
  refine x_bipush (pc := 65) dX13_init_65 (by decide) ⟨by decide, by decide⟩ ?_
  refine x_newCI (N := 17) (c := 77) (K := 227) (by show mSz M + 6 = 77; omega) rfl (pc := 67) dX13_init_67 (by decide) rfl WA_int ?_
  refine x_putRF (t := 11) (j := 9) (pc := 69) dX13_init_69 ⟨Nat.le_of_ble_eq_true rfl, Or.inl (by show 220 < 150 + (mSz M + 7); omega)⟩ rfl (by decide) (by decide) rfl (Or.inr ⟨_, rfl⟩) rfl rfl rfl WF_X13_37 (hN _) rfl ?_
  refine x_aload_n (pc := 72) dX13_init_72 rfl ?_
  refine x_bipush (pc := 73) dX13_init_73 (by decide) ⟨by decide, by decide⟩ ?_
  refine x_newCI (N := 17) (c := 78) (K := 228) (by show mSz M + 7 = 78; omega) rfl (pc := 75) dX13_init_75 (by decide) rfl WA_int ?_
  refine x_putRF (t := 11) (j := 10) (pc := 77) dX13_init_77 ⟨Nat.le_of_ble_eq_true rfl, Or.inl (by show 220 < 150 + (mSz M + 8); omega)⟩ rfl (by decide) (by decide) rfl (Or.inr ⟨_, rfl⟩) rfl rfl rfl WF_X13_40 (hN _) rfl ?_
  refine x_aload_n (pc := 80) dX13_init_80 rfl ?_
  refine x_sipush (pc := 81) dX13_init_81 (by decide) ⟨by decide, by decide⟩ ?_
  refine x_newCI (N := 800) (c := 79) (K := 229) (by show mSz M + 8 = 79; omega) rfl (pc := 84) dX13_init_84 (by decide) rfl WA_int ?_
  refine x_putRF (t := 11) (j := 12) (pc := 86) dX13_init_86 ⟨Nat.le_of_ble_eq_true rfl, Or.inl (by show 220 < 150 + (mSz M + 9); omega)⟩ rfl (by decide) (by decide) rfl (Or.inr ⟨_, rfl⟩) rfl rfl rfl WF_X13_43 (hN _) rfl ?_
  refine x_aload_n (pc := 89) dX13_init_89 rfl ?_
  refine x_sipush (pc := 90) dX13_init_90 (by decide) ⟨by decide, by decide⟩ ?_
  refine x_newCI (N := 800) (c := 80) (K := 230) (by show mSz M + 9 = 80; omega) rfl (pc := 93) dX13_init_93 (by decide) rfl WA_int ?_
  refine x_putRF (t := 11) (j := 13) (pc := 95) dX13_init_95 ⟨Nat.le_of_ble_eq_true rfl, Or.inl (by show 220 < 150 + (mSz M + 10); omega)⟩ rfl (by decide) (by decide) rfl (Or.inr ⟨_, rfl⟩) rfl rfl rfl WF_X13_46 (hN _) rfl ?_
  refine x_aload_n (pc := 98) dX13_init_98 rfl ?_
  refine x_sipush (pc := 99) dX13_init_99 (by decide) ⟨by decide, by decide⟩ ?_
  refine x_newCI (N := 800) (c := 81) (K := 231) (by show mSz M + 10 = 81; omega) rfl (pc := 102) dX13_init_102 (by decide) rfl WA_int ?_
  refine x_putRF (t := 11) (j := 14) (pc := 104) dX13_init_104 ⟨Nat.le_of_ble_eq_true rfl, Or.inl (by show 220 < 150 + (mSz M + 11); omega)⟩ rfl (by decide) (by decide) rfl (Or.inr ⟨_, rfl⟩) rfl rfl rfl WF_X13_49 (hN _) rfl ?_
  cases hf
  exact x_retV (pc := 107) dX13_init_107
/- ('HexPondModel', '<init>', '()V') of 203 -/
def fX14_init_b165 (M : ax_M) (v1 : Int) : Option ((Int × ax_M) ⊕ ax_M) :=
  (if v1 < 81 then (if 0 ≤ v1 ∧ v1 < 81 then (some (.inl ((v1 + 1), (mUI M 233 (Int.toNat v1) (-1))))) else none) else (some (.inr M)))
def fX14_init (M : ax_M) : Option ax_M :=
  (bd1 (fX13_init_a (mAl (mUR (mAl (mUR (mAl (mUR (mAl (mUI (mUR (mAl M 32 2000 2000) 203 1 (some 204)) 203 3 (-1)) 32 402 402) 203 4 (some 205)) 32 402 402) 203 5 (some 206)) 32 402 402) 203 6 (some 207)) 11 15 15)) fun M102 => (if mSz M102 = 70 then (bd1 (fX13_init_b (mAl (mUR M102 203 12 (some 208)) 11 15 15)) fun M105 => (if mSz M105 = 82 then (if mR (mUR (mAl (mUR (mAl (mUR (mAl (mUR (mAl (mUR (mAl (mUR (mAl (mUR (mAl (mUR (mAl (mUR (mAl (mUR (mAl (mUR (mAl (mUR M105 203 13 (some 220)) 32 800 800) 203 14 (some 232)) 32 81 81) 203 15 (some 233)) 32 81 81) 203 16 (some 234)) 32 81 81) 203 18 (some 235)) 32 81 81) 203 19 (some 236)) 32 81 81) 203 20 (some 237)) 32 81 81) 203 21 (some 238)) 32 82 82) 203 22 (some 239)) 32 81 81) 203 23 (some 240)) 34 81 81) 203 24 (some 241)) 32 6 6) 203 26 (some 242)) 203 12 = some 208 then (if ax_frz (mUR (mAl (mUR (mAl (mUR (mAl (mUR (mAl (mUR (mAl (mUR (mAl (mUR (mAl (mUR (mAl (mUR (mAl (mUR (mAl (mUR (mAl (mUR M105 203 13 (some 220)) 32 800 800) 203 14 (some 232)) 32 81 81) 203 15 (some 233)) 32 81 81) 203 16 (some 234)) 32 81 81) 203 18 (some 235)) 32 81 81) 203 19 (some 236)) 32 81 81) 203 20 (some 237)) 32 81 81) 203 21 (some 238)) 32 82 82) 203 22 (some 239)) 32 81 81) 203 23 (some 240)) 34 81 81) 203 24 (some 241)) 32 6 6) 203 26 (some 242)) 203 243 = true then (bd1 (fX13_begin (mUR (mAl (mUR (mAl (mUR (mAl (mUR (mAl (mUR (mAl (mUR (mAl (mUR (mAl (mUR (mAl (mUR (mAl (mUR (mAl (mUR (mAl (mUR M105 203 13 (some 220)) 32 800 800) 203 14 (some 232)) 32 81 81) 203 15 (some 233)) 32 81 81) 203 16 (some 234)) 32 81 81) 203 18 (some 235)) 32 81 81) 203 19 (some 236)) 32 81 81) 203 20 (some 237)) 32 81 81) 203 21 (some 238)) 32 82 82) 203 22 (some 239)) 32 81 81) 203 23 (some 240)) 34 81 81) 203 24 (some 241)) 32 6 6) 203 26 (some 242)) 208) fun M110 => (bd1 (lp (fun s => fX14_init_b165 s.2 s.1) lpN (0, M110)) fun t114 => (some t114))) else none) else none) else none)) else none))
theorem B_X14_init_165 {G : ax_G} {d : Nat} (hd : 2 ≤ d) (hG : axPs G 203 243) {M : ax_M} {v1 : Int} {o : Option ax_V ⊕ String} {M' : ax_M} {y : (Int × ax_M) ⊕ ax_M} (hf : fX14_init_b165 M v1 = some y) (h1 : ∀ s', y = .inl s' → ax_Ex G tX14_init d 165 [some (vR 203), some (vI s'.1)] [] s'.2 o M') (h2a : ∀ t, y = .inr t → ax_Ex G tX14_init d 184 [some (vR 203), none] [] t o M') : ax_Ex G tX14_init d 165 [some (vR 203), some (vI v1)] [] M o M' := by
  unfold fX14_init_b165 at hf
  refine x_iload_n (pc := 165) dX14_init_165 rfl ?_
  refine x_bipush (pc := 166) dX14_init_166 (by decide) ⟨by decide, by decide⟩ ?_
  refine ax_cmp (fun b112a b112b b112c b112e => ?_)
  refine x_icmpge (tgt := 184) (pc := 168) dX14_init_168 rfl (fun h111 => ?_) (fun h111 => ?_)
  · replace hf := (if_neg (Int.not_lt.mpr h111)).symm.trans hf
    cases hf
    exact x_fgt (axS' (axN' axD)) (h2a _ rfl)
  · replace hf := (if_pos h111).symm.trans hf
    refine x_aload_n (pc := 171) dX14_init_171 rfl ?_
    refine x_getF (t := 12) (j := 15) (r := 233) (pc := 172) dX14_init_172 (axH hG rfl) (axEx hG rfl) rfl (by decide) (by decide) rfl rfl WF_X14_39 ?_
    refine x_iload_n (pc := 175) dX14_init_175 rfl ?_
    refine x_iconst (pc := 176) dX14_init_176 ⟨by decide, by decide⟩ ?_
    by_cases h113 : 0 ≤ v1 ∧ v1 < 81
    · replace hf := (if_pos h113).symm.trans hf
      refine x_iast2 (n := 81) (pc := 177) dX14_init_177 (axEx hG rfl) rfl h113.1 h113.2 ?_
      refine x_iinc (z := (v1 + 1)) (ls' := [some (vR 203), some (vI (v1 + 1))]) (pc := 178) dX14_init_178 rfl (Nat.le_of_ble_eq_true rfl) rfl rfl (ax_i (by omega) (by omega)) rfl ?_
      refine x_goto (tgt := 165) (pc := 181) dX14_init_181 rfl ?_
      cases hf
      exact h1 _ rfl
    · replace hf := (if_neg h113).symm.trans hf
      cases hf
set_option maxRecDepth 20000 in
theorem T_X14_init {G : ax_G} {d : Nat} (hd : 2 ≤ d) (hN : ∀ k, gPh G k = false) (hmu : ax_Mul) {M : ax_M} (hz : mSz M = 54) {M1 : ax_M} (hf : fX14_init M = some M1) : ax_Ex G tX14_init d 0 (ax_args [vR 203] ++ List.replicate 1 none) [] M (.inl none) M1 := by
  show ax_Ex G tX14_init d 0 [some (vR 203), none] [] M _ _
  unfold fX14_init at hf
  refine x_aload_n (pc := 0) dX14_init_0 rfl ?_
  refine x_objInit (pc := 1) dX14_init_1 WM_X14_1 WI_Object WK_Object (Nat.le_of_ble_eq_true rfl) (by omega) ?_
  refine x_aload_n (pc := 4) dX14_init_4 rfl ?_
  refine x_sipush (pc := 5) dX14_init_5 (by decide) ⟨by decide, by decide⟩ ?_
  refine x_newCI (N := 2000) (c := 54) (K := 204) (by show mSz M = 54; omega) rfl (pc := 8) dX14_init_8 (by decide) rfl WA_int ?_
  refine x_putRF (t := 12) (j := 1) (pc := 10) dX14_init_10 ⟨Nat.le_of_ble_eq_true rfl, Or.inl (by show 203 < 150 + (mSz M + 1); omega)⟩ rfl (by decide) (by decide) rfl (Or.inr ⟨_, rfl⟩) rfl rfl rfl WF_X14_9 (hN _) rfl ?_
  refine x_aload_n (pc := 13) dX14_init_13 rfl ?_
  refine x_iconst (pc := 14) dX14_init_14 ⟨by decide, by decide⟩ ?_
  refine x_putI (t := 12) (j := 3) (pc := 15) dX14_init_15 ⟨Nat.le_of_ble_eq_true rfl, Or.inl (by show 203 < 150 + (mSz M + 1); omega)⟩ rfl (by decide) (by decide) rfl rfl WF_X14_13 ?_
  refine x_aload_n (pc := 18) dX14_init_18 rfl ?_
  refine x_sipush (pc := 19) dX14_init_19 (by decide) ⟨by decide, by decide⟩ ?_
  refine x_newCI (N := 402) (c := 55) (K := 205) (by show mSz M + 1 = 55; omega) rfl (pc := 22) dX14_init_22 (by decide) rfl WA_int ?_
  refine x_putRF (t := 12) (j := 4) (pc := 24) dX14_init_24 ⟨Nat.le_of_ble_eq_true rfl, Or.inl (by show 203 < 150 + (mSz M + 2); omega)⟩ rfl (by decide) (by decide) rfl (Or.inr ⟨_, rfl⟩) rfl rfl rfl WF_X14_17 (hN _) rfl ?_
  refine x_aload_n (pc := 27) dX14_init_27 rfl ?_
  refine x_sipush (pc := 28) dX14_init_28 (by decide) ⟨by decide, by decide⟩ ?_
  refine x_newCI (N := 402) (c := 56) (K := 206) (by show mSz M + 2 = 56; omega) rfl (pc := 31) dX14_init_31 (by decide) rfl WA_int ?_
  refine x_putRF (t := 12) (j := 5) (pc := 33) dX14_init_33 ⟨Nat.le_of_ble_eq_true rfl, Or.inl (by show 203 < 150 + (mSz M + 3); omega)⟩ rfl (by decide) (by decide) rfl (Or.inr ⟨_, rfl⟩) rfl rfl rfl WF_X14_20 (hN _) rfl ?_
  refine x_aload_n (pc := 36) dX14_init_36 rfl ?_
  refine x_sipush (pc := 37) dX14_init_37 (by decide) ⟨by decide, by decide⟩ ?_
  refine x_newCI (N := 402) (c := 57) (K := 207) (by show mSz M + 3 = 57; omega) rfl (pc := 40) dX14_init_40 (by decide) rfl WA_int ?_
  refine x_putRF (t := 12) (j := 6) (pc := 42) dX14_init_42 ⟨Nat.le_of_ble_eq_true rfl, Or.inl (by show 203 < 150 + (mSz M + 4); omega)⟩ rfl (by decide) (by decide) rfl (Or.inr ⟨_, rfl⟩) rfl rfl rfl WF_X14_23 (hN _) rfl ?_
  refine x_aload_n (pc := 45) dX14_init_45 rfl ?_
  refine x_newC (t := 11) (c := 58) (K := 208) (by show mSz M + 4 = 58; omega) rfl (pc := 46) dX14_init_46 (by decide) rfl WC_X14_26 WB_X13 WN_X13 ?_
  refine x_dup (pc := 49) dX14_init_49 rfl ?_
  obtain ⟨M102, r101, hf⟩ := bd1_some hf
  refine x_cv (vs := [vR 208]) (rest := [vR 208, vR 203]) (k := 0) rfl (by omega) (ax_caIN (pc := 50) dX14_init_50 kX13_init rfl rfl rfl rfl NM_X14_28 WI_X13_init WN_X13 (Nat.le_of_ble_eq_true rfl)) kX13_init rfl True.intro (T_X13_init_a (by omega) hN hmu (by show mSz M + 5 = 59; omega) r101) ?_
  by_cases h103 : mSz M102 = 70
  · replace hf := (if_pos h103).symm.trans hf
    refine x_putRF (t := 12) (j := 12) (pc := 53) dX14_init_53 ⟨Nat.le_of_ble_eq_true rfl, Or.inl (by show 203 < 150 + mSz M102; omega)⟩ rfl (by decide) (by decide) rfl (Or.inl ⟨_, rfl⟩) rfl rfl rfl WF_X14_29 (hN _) rfl ?_
    refine x_aload_n (pc := 56) dX14_init_56 rfl ?_
    refine x_newC (t := 11) (c := 70) (K := 220) (by show mSz M102 = 70; omega) rfl (pc := 57) dX14_init_57 (by decide) rfl WC_X14_26 WB_X13 WN_X13 ?_
    refine x_dup (pc := 60) dX14_init_60 rfl ?_
    obtain ⟨M105, r104, hf⟩ := bd1_some hf
    refine x_cv (vs := [vR 220]) (rest := [vR 220, vR 203]) (k := 0) rfl (by omega) (ax_caIN (pc := 61) dX14_init_61 kX13_init rfl rfl rfl rfl NM_X14_28 WI_X13_init WN_X13 (Nat.le_of_ble_eq_true rfl)) kX13_init rfl True.intro (T_X13_init_b (by omega) hN hmu (by show mSz M102 + 1 = 71; omega) r104) ?_
    by_cases h106 : mSz M105 = 82
    · replace hf := (if_pos h106).symm.trans hf
      refine x_putRF (t := 12) (j := 13) (pc := 64) dX14_init_64 ⟨Nat.le_of_ble_eq_true rfl, Or.inl (by show 203 < 150 + mSz M105; omega)⟩ rfl (by decide) (by decide) rfl (Or.inl ⟨_, rfl⟩) rfl rfl rfl WF_X14_33 (hN _) rfl ?_
      refine x_aload_n (pc := 67) dX14_init_67 rfl ?_
      refine x_sipush (pc := 68) dX14_init_68 (by decide) ⟨by decide, by decide⟩ ?_
      refine x_newCI (N := 800) (c := 82) (K := 232) (by show mSz M105 = 82; omega) rfl (pc := 71) dX14_init_71 (by decide) rfl WA_int ?_
      refine x_putRF (t := 12) (j := 14) (pc := 73) dX14_init_73 ⟨Nat.le_of_ble_eq_true rfl, Or.inl (by show 203 < 150 + (mSz M105 + 1); omega)⟩ rfl (by decide) (by decide) rfl (Or.inr ⟨_, rfl⟩) rfl rfl rfl WF_X14_36 (hN _) rfl ?_
      refine x_aload_n (pc := 76) dX14_init_76 rfl ?_
      refine x_bipush (pc := 77) dX14_init_77 (by decide) ⟨by decide, by decide⟩ ?_
      refine x_newCI (N := 81) (c := 83) (K := 233) (by show mSz M105 + 1 = 83; omega) rfl (pc := 79) dX14_init_79 (by decide) rfl WA_int ?_
      refine x_putRF (t := 12) (j := 15) (pc := 81) dX14_init_81 ⟨Nat.le_of_ble_eq_true rfl, Or.inl (by show 203 < 150 + (mSz M105 + 2); omega)⟩ rfl (by decide) (by decide) rfl (Or.inr ⟨_, rfl⟩) rfl rfl rfl WF_X14_39 (hN _) rfl ?_
      refine x_aload_n (pc := 84) dX14_init_84 rfl ?_
      refine x_bipush (pc := 85) dX14_init_85 (by decide) ⟨by decide, by decide⟩ ?_
      refine x_newCI (N := 81) (c := 84) (K := 234) (by show mSz M105 + 2 = 84; omega) rfl (pc := 87) dX14_init_87 (by decide) rfl WA_int ?_
      refine x_putRF (t := 12) (j := 16) (pc := 89) dX14_init_89 ⟨Nat.le_of_ble_eq_true rfl, Or.inl (by show 203 < 150 + (mSz M105 + 3); omega)⟩ rfl (by decide) (by decide) rfl (Or.inr ⟨_, rfl⟩) rfl rfl rfl WF_X14_42 (hN _) rfl ?_
      refine x_aload_n (pc := 92) dX14_init_92 rfl ?_
      refine x_bipush (pc := 93) dX14_init_93 (by decide) ⟨by decide, by decide⟩ ?_
      refine x_newCI (N := 81) (c := 85) (K := 235) (by show mSz M105 + 3 = 85; omega) rfl (pc := 95) dX14_init_95 (by decide) rfl WA_int ?_
      refine x_putRF (t := 12) (j := 18) (pc := 97) dX14_init_97 ⟨Nat.le_of_ble_eq_true rfl, Or.inl (by show 203 < 150 + (mSz M105 + 4); omega)⟩ rfl (by decide) (by decide) rfl (Or.inr ⟨_, rfl⟩) rfl rfl rfl WF_X14_45 (hN _) rfl ?_
      refine x_aload_n (pc := 100) dX14_init_100 rfl ?_
      refine x_bipush (pc := 101) dX14_init_101 (by decide) ⟨by decide, by decide⟩ ?_
      refine x_newCI (N := 81) (c := 86) (K := 236) (by show mSz M105 + 4 = 86; omega) rfl (pc := 103) dX14_init_103 (by decide) rfl WA_int ?_
      refine x_putRF (t := 12) (j := 19) (pc := 105) dX14_init_105 ⟨Nat.le_of_ble_eq_true rfl, Or.inl (by show 203 < 150 + (mSz M105 + 5); omega)⟩ rfl (by decide) (by decide) rfl (Or.inr ⟨_, rfl⟩) rfl rfl rfl WF_X14_48 (hN _) rfl ?_
      refine x_aload_n (pc := 108) dX14_init_108 rfl ?_
      refine x_bipush (pc := 109) dX14_init_109 (by decide) ⟨by decide, by decide⟩ ?_
      refine x_newCI (N := 81) (c := 87) (K := 237) (by show mSz M105 + 5 = 87; omega) rfl (pc := 111) dX14_init_111 (by decide) rfl WA_int ?_
      refine x_putRF (t := 12) (j := 20) (pc := 113) dX14_init_113 ⟨Nat.le_of_ble_eq_true rfl, Or.inl (by show 203 < 150 + (mSz M105 + 6); omega)⟩ rfl (by decide) (by decide) rfl (Or.inr ⟨_, rfl⟩) rfl rfl rfl WF_X14_51 (hN _) rfl ?_
      refine x_aload_n (pc := 116) dX14_init_116 rfl ?_
      refine x_bipush (pc := 117) dX14_init_117 (by decide) ⟨by decide, by decide⟩ ?_
      refine x_newCI (N := 81) (c := 88) (K := 238) (by show mSz M105 + 6 = 88; omega) rfl (pc := 119) dX14_init_119 (by decide) rfl WA_int ?_
      refine x_putRF (t := 12) (j := 21) (pc := 121) dX14_init_121 ⟨Nat.le_of_ble_eq_true rfl, Or.inl (by show 203 < 150 + (mSz M105 + 7); omega)⟩ rfl (by decide) (by decide) rfl (Or.inr ⟨_, rfl⟩) rfl rfl rfl WF_X14_54 (hN _) rfl ?_
      refine x_aload_n (pc := 124) dX14_init_124 rfl ?_
      refine x_bipush (pc := 125) dX14_init_125 (by decide) ⟨by decide, by decide⟩ ?_
      refine x_newCI (N := 82) (c := 89) (K := 239) (by show mSz M105 + 7 = 89; omega) rfl (pc := 127) dX14_init_127 (by decide) rfl WA_int ?_
      refine x_putRF (t := 12) (j := 22) (pc := 129) dX14_init_129 ⟨Nat.le_of_ble_eq_true rfl, Or.inl (by show 203 < 150 + (mSz M105 + 8); omega)⟩ rfl (by decide) (by decide) rfl (Or.inr ⟨_, rfl⟩) rfl rfl rfl WF_X14_57 (hN _) rfl ?_
      refine x_aload_n (pc := 132) dX14_init_132 rfl ?_
      refine x_bipush (pc := 133) dX14_init_133 (by decide) ⟨by decide, by decide⟩ ?_
      refine x_newCI (N := 81) (c := 90) (K := 240) (by show mSz M105 + 8 = 90; omega) rfl (pc := 135) dX14_init_135 (by decide) rfl WA_int ?_
      refine x_putRF (t := 12) (j := 23) (pc := 137) dX14_init_137 ⟨Nat.le_of_ble_eq_true rfl, Or.inl (by show 203 < 150 + (mSz M105 + 9); omega)⟩ rfl (by decide) (by decide) rfl (Or.inr ⟨_, rfl⟩) rfl rfl rfl WF_X14_60 (hN _) rfl ?_
      refine x_aload_n (pc := 140) dX14_init_140 rfl ?_
      refine x_bipush (pc := 141) dX14_init_141 (by decide) ⟨by decide, by decide⟩ ?_
      refine x_newCZ (N := 81) (c := 91) (K := 241) (by show mSz M105 + 9 = 91; omega) rfl (pc := 143) dX14_init_143 (by decide) rfl WA_boolean ?_
      refine x_putRF (t := 12) (j := 24) (pc := 145) dX14_init_145 ⟨Nat.le_of_ble_eq_true rfl, Or.inl (by show 203 < 150 + (mSz M105 + 10); omega)⟩ rfl (by decide) (by decide) rfl (Or.inr ⟨_, rfl⟩) rfl rfl rfl WF_X14_63 (hN _) rfl ?_
      refine x_aload_n (pc := 148) dX14_init_148 rfl ?_
      refine x_bipush (pc := 149) dX14_init_149 (by decide) ⟨by decide, by decide⟩ ?_
      refine x_newCI (N := 6) (c := 92) (K := 242) (by show mSz M105 + 10 = 92; omega) rfl (pc := 151) dX14_init_151 (by decide) rfl WA_int ?_
      refine x_putRF (t := 12) (j := 26) (pc := 153) dX14_init_153 ⟨Nat.le_of_ble_eq_true rfl, Or.inl (by show 203 < 150 + (mSz M105 + 11); omega)⟩ rfl (by decide) (by decide) rfl (Or.inr ⟨_, rfl⟩) rfl rfl rfl WF_X14_67 (hN _) rfl ?_
      refine x_aload_n (pc := 156) dX14_init_156 rfl ?_
      by_cases h107 : mR (mUR (mAl (mUR (mAl (mUR (mAl (mUR (mAl (mUR (mAl (mUR (mAl (mUR (mAl (mUR (mAl (mUR (mAl (mUR (mAl (mUR (mAl (mUR M105 203 13 (some 220)) 32 800 800) 203 14 (some 232)) 32 81 81) 203 15 (some 233)) 32 81 81) 203 16 (some 234)) 32 81 81) 203 18 (some 235)) 32 81 81) 203 19 (some 236)) 32 81 81) 203 20 (some 237)) 32 81 81) 203 21 (some 238)) 32 82 82) 203 22 (some 239)) 32 81 81) 203 23 (some 240)) 34 81 81) 203 24 (some 241)) 32 6 6) 203 26 (some 242)) 203 12 = some 208
      · replace hf := (if_pos h107).symm.trans hf
        refine x_getRq h107 (t := 12) (j := 12) (pc := 157) dX14_init_157 ⟨Nat.le_of_ble_eq_true rfl, Or.inl (by show 203 < 150 + (mSz M105 + 11); omega)⟩ rfl (by decide) (by decide) rfl WF_X14_29 ?_
        by_cases h108 : ax_frz (mUR (mAl (mUR (mAl (mUR (mAl (mUR (mAl (mUR (mAl (mUR (mAl (mUR (mAl (mUR (mAl (mUR (mAl (mUR (mAl (mUR (mAl (mUR M105 203 13 (some 220)) 32 800 800) 203 14 (some 232)) 32 81 81) 203 15 (some 233)) 32 81 81) 203 16 (some 234)) 32 81 81) 203 18 (some 235)) 32 81 81) 203 19 (some 236)) 32 81 81) 203 20 (some 237)) 32 81 81) 203 21 (some 238)) 32 82 82) 203 22 (some 239)) 32 81 81) 203 23 (some 240)) 34 81 81) 203 24 (some 241)) 32 6 6) 203 26 (some 242)) 203 243 = true
        · replace hf := (if_pos h108).symm.trans hf
          refine x_phaseC (a := 203) (b := 243) h108 ?_
          have hG := axPb_self G 203 243
          obtain ⟨M110, r109, hf⟩ := bd1_some hf
          refine x_cv (vs := [vR 208]) (rest := []) (k := 1) rfl (by omega) (ax_caV (pc := 160) dX14_init_160 kX13_begin rfl rfl WM_X14_70 WI_X13_begin WS_X13_begin WN_X13 (ax_rcO (t := 11) (axEx hG rfl) rfl (by decide)) (Nat.le_of_ble_eq_true rfl)) kX13_begin rfl True.intro (T_X13_begin (by omega) (axPs.sub hG (Nat.le_of_ble_eq_true rfl) (Nat.le_of_ble_eq_true rfl)) (by decide) r109) ?_
          refine x_iconst (pc := 163) dX14_init_163 ⟨by decide, by decide⟩ ?_
          refine x_istore_n (ls' := [some (vR 203), some (vI 0)]) (pc := 164) dX14_init_164 (Nat.le_of_ble_eq_true rfl) rfl rfl ?_
          obtain ⟨t114, t115, hf⟩ := bd1_some hf
          refine lp_ex (P := (fun s => ax_Ex (axPh G (axPb G 203 243)) tX14_init d 165 [some (vR 203), some (vI s.1)] [] s.2 _ _)) (K := (fun t => ax_Ex (axPh G (axPb G 203 243)) tX14_init d 184 [some (vR 203), none] [] t _ _)) (fun s y hy h1 h2 => B_X14_init_165 (by omega) hG hy (fun s' e => h1 s' e) (fun t e => h2 t e)) _ _ _ t115 ?_
          cases hf
          exact x_retV (pc := 184) dX14_init_184
        · replace hf := (if_neg h108).symm.trans hf
          cases hf
      · replace hf := (if_neg h107).symm.trans hf
        cases hf
    · replace hf := (if_neg h106).symm.trans hf
      cases hf
  · replace hf := (if_neg h103).symm.trans hf
    cases hf
