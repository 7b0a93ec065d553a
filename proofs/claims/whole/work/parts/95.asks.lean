/-! part C: the calls, one by one: stones, groups, bridges -/
def cvB (v : Int) : Int64 := if v = 0 then Int64.ofNat 0 else Int64.ofNat 1
theorem cvB_eq (v : Int) (M : ax_M) : (if v = 0 then (some ((0 : Int), (mUJ M 243 0 (Int64.ofNat 0)))) else (some ((0 : Int), (mUJ M 243 0 (Int64.ofNat 1))))) = some (0, mUJ M 243 0 (cvB v)) := by
  unfold cvB
  by_cases z : v = 0
  · rw [if_pos z, if_pos z]
  · rw [if_neg z, if_neg z]
section CL2
variable {M M1 M2 N : ax_M} {q q' : Nat} {w h : Int} {o : Int → Int} {k T e : Int} {b : Int → Int} {p x y : Int}
theorem C_rp1 (M : ax_M) (hp : p = 0 ∨ p = 1) : fX12_requirePlayer M p = some (.inl (), M) := by
  unfold fX12_requirePlayer
  rcases hp with rfl | rfl
  · rw [if_pos rfl]
  · rw [if_neg (by decide), if_pos rfl]
theorem C_rp0 (M : ax_M) (hp : ¬ (p = 0 ∨ p = 1)) : fX12_requirePlayer M p = some (.inr "java/lang/IndexOutOfBoundsException", mAl M 15 0 6) := by
  unfold fX12_requirePlayer
  rw [if_neg (by omega), if_neg (by omega)]
theorem Q_ip1 (M : ax_M) (hp : p = 0 ∨ p = 1) : fX14_isPlayer M p = 1 := by
  unfold fX14_isPlayer
  rcases hp with rfl | rfl
  · rw [if_pos rfl]
  · rw [if_neg (by decide), if_pos rfl]
theorem Q_ip0 (M : ax_M) (hp : ¬ (p = 0 ∨ p = 1)) : fX14_isPlayer M p = 0 := by
  unfold fX14_isPlayer
  rw [if_neg (by omega), if_neg (by omega)]
theorem C_rc1 (P : Pd M w h o) (z : 0 ≤ x ∧ x < w ∧ 0 ≤ y ∧ y < h) : fX12_requiredCell M x y = some (.inl (gCell w h x y), M) := by
  unfold fX12_requiredCell
  have := gC_on P.k z.1 z.2.1 z.2.2.1 z.2.2.2
  rw [P_cellAt P.1, if_neg (by omega)]
theorem C_rc0 (P : Pd M w h o) (z : ¬ (0 ≤ x ∧ x < w ∧ 0 ≤ y ∧ y < h)) : fX12_requiredCell M x y = some (.inr "java/lang/IndexOutOfBoundsException", mAl M 15 0 6) := by
  unfold fX12_requiredCell
  rw [P_cellAt P.1, gC_off z, if_pos rfl]
theorem C_rs0 (P : Pd M w h o) (z : ¬ (0 ≤ x ∧ x < w ∧ 0 ≤ y ∧ y < h)) : fX12_requiredStone M x y = some (.inr "java/lang/IndexOutOfBoundsException", mAl M 15 0 6) := by
  unfold fX12_requiredStone
  rw [C_rc0 P z, bdT_r]
theorem C_rs2 (P : Pd M w h o) (z : 0 ≤ x ∧ x < w ∧ 0 ≤ y ∧ y < h) (ho : o (gCell w h x y) = 0) : fX12_requiredStone M x y = some (.inr "java/lang/IllegalStateException", mAl M 13 0 6) := by
  unfold fX12_requiredStone
  rw [C_rc1 P z, bdT_l, P_own P, if_pos ho]
theorem C_rs1 (P : Pd M w h o) (z : 0 ≤ x ∧ x < w ∧ 0 ≤ y ∧ y < h) (ho : o (gCell w h x y) ≠ 0) : fX12_requiredStone M x y = some (.inl (gCell w h x y), M) := by
  unfold fX12_requiredStone
  rw [C_rc1 P z, bdT_l, P_own P, if_neg ho]
theorem Q_on1 (P : Md M w h o) (z : 0 ≤ x ∧ x < w ∧ 0 ≤ y ∧ y < h) : fX14_isOn M x y = 1 := by rw [Q_on P, if_pos z]
theorem Q_on0 (P : Md M w h o) (z : ¬ (0 ≤ x ∧ x < w ∧ 0 ≤ y ∧ y < h)) : fX14_isOn M x y = 0 := by rw [Q_on P, if_neg z]
theorem gcell_b (k : gOk w h) (z : 0 ≤ x ∧ x < w ∧ 0 ≤ y ∧ y < h) : 0 ≤ gCell w h x y ∧ gCell w h x y < w * h ∧ w * h ≤ 81 := by
  have := gC_on k z.1 z.2.1 z.2.2.1 z.2.2.2
  have := gOk_le k
  omega
theorem Q_sa0 (P : Md M w h o) (z : ¬ (0 ≤ x ∧ x < w ∧ 0 ≤ y ∧ y < h)) : fX14_stoneAt M x y = some (0, mUI M 203 0 1) := by
  unfold fX14_stoneAt
  rw [Q_on0 P z, if_pos rfl, mI_Us, if_neg (by decide)]
theorem Md_z (P : Md M w h o) (v : Int) : Md (mUI M 203 0 v) w h o := P.fr ((Fr.refl sMm M).up (by unfold sMm; omega)) (fun k j z => by unfold sMm; omega)
theorem Q_sa2 (P : Md M w h o) (z : 0 ≤ x ∧ x < w ∧ 0 ≤ y ∧ y < h) (ho : o (gCell w h x y) = 0) : fX14_stoneAt M x y = some (0, mUI M 203 0 2) := by
  have c := gcell_b P.1 z
  unfold fX14_stoneAt
  rw [Q_on1 P z, if_neg (by decide), Q_at P z, if_pos ⟨c.1, by omega⟩, P.2.2.2.2 _ c.1 (by omega), ho, if_pos (show (0 : Int) - 1 = -1 by decide), mI_Us, if_neg (by decide)]
theorem Q_sa1 (P : Md M w h o) (z : 0 ≤ x ∧ x < w ∧ 0 ≤ y ∧ y < h) (ho : o (gCell w h x y) ≠ 0) : fX14_stoneAt M x y = some (o (gCell w h x y) - 1, mUI M 203 0 0) := by
  have c := gcell_b P.1 z
  have P0 := Md_z P 0
  unfold fX14_stoneAt
  rw [Q_on1 P z, if_neg (by decide), Q_at P z, if_pos ⟨c.1, by omega⟩, P.2.2.2.2 _ c.1 (by omega), if_neg (by omega), mI_Us, if_pos rfl, Q_at P0 z, if_pos ⟨c.1, by omega⟩, P0.2.2.2.2 _ c.1 (by omega)]
theorem gI.cg (I : gI M q q' w h o k b T e) (f : Fr sG M N) : gI N q q' w h o k b T e := by
  have hq : q = 157 ∨ q = 194 := by have := I.1.1; omega
  exact I.keep (f.x.mono (fun k j _ z => by unfold sG at z; unfold sFr; omega)) (I.2.2.2.1.x f.x (fun k j z => by unfold sG; omega)) (I.2.2.2.2.1.x f.x (fun k j z => by unfold sG; omega))
theorem gI.cw (I : gI M q q' w h o k b T e) (f : Fr sU M N) (W : gWays N w h o) : gI N q q' w h o k b T e := by
  have hq : q = 157 ∨ q = 194 := by have := I.1.1; omega
  exact I.keep (f.x.mono (fun k j _ z => by unfold sU at z; unfold sFr; omega)) W (I.2.2.2.2.1.x f.x (fun k j z => by unfold sU; omega))
theorem gI.cb (I : gI M q q' w h o k b T e) (f : Fr sB M N) (B : gBr N w h o) : gI N q q' w h o k b T e := by
  have hq : q = 157 ∨ q = 194 := by have := I.1.1; omega
  exact I.keep (f.x.mono (fun k j _ z => by unfold sB at z; unfold sFr; omega)) (I.2.2.2.1.x f.x (fun k j z => by unfold sB; omega)) B
theorem gI.cc (I : gI M q q' w h o k b T e) (f : Fr sC M N) (W : gWays N w h o) (B : gBr N w h o) : gI N q q' w h o k b T e := by
  have hq : q = 157 ∨ q = 194 := by have := I.1.1; omega
  exact I.keep (f.x.mono (fun k j _ z => by unfold sC at z; unfold sFr; omega)) W B
theorem f22 {S : Nat → Nat → Prop} (f : Fr S M N) : N.2.2 = M.2.2 := by rw [f.1]
theorem f9 {S : Nat → Nat → Prop} (f : Fr S M N) (hS : ¬ S 169 9) : mI M 169 9 ≤ mI N 169 9 ∧ mI N 169 9 ≤ mI M 169 9 + 400 := by
  have := f.2 169 9 hS
  omega
theorem sG9 : ¬ sG 169 9 := by unfold sG; omega
theorem sU9 : ¬ sU 169 9 := by unfold sU; omega
theorem sB9 : ¬ sB 169 9 := by unfold sB; omega
theorem sC9 : ¬ sC 169 9 := by unfold sC; omega
theorem gwr_is (k : gOk w h) (g : gOwn w h o) : (gwr w h o = 0 ∧ gwon w h o 0 ∧ ¬ gwon w h o 1) ∨ (gwr w h o = 1 ∧ ¬ gwon w h o 0 ∧ gwon w h o 1) ∨ (gwr w h o = -1 ∧ ¬ gwon w h o 0 ∧ ¬ gwon w h o 1) := by
  obtain ⟨M, P⟩ := Pd_ex k g
  have g0 := gneed_0 P (p := 0) (by omega)
  have g1 := gneed_0 P (p := 1) (by omega)
  unfold gwr
  by_cases z : gneed w h o 0 = 0
  · rw [if_pos z]
    refine Or.inl ⟨rfl, g0.mp z, ?_⟩
    rintro ⟨z', b1, b2⟩
    obtain ⟨z0, r1, r2⟩ := g0.mp z
    exact gHex k r1 r2 b1 b2
  · rw [if_neg z]
    by_cases y : gneed w h o 1 = 0
    · rw [if_pos y]
      exact Or.inr (Or.inl ⟨rfl, fun x => z (g0.mpr x), g1.mp y⟩)
    · rw [if_neg y]
      exact Or.inr (Or.inr ⟨rfl, fun x => z (g0.mpr x), fun x => y (g1.mpr x)⟩)
theorem Q_over (P : Md M w h o) : ∃ M', fX14_over M = some (if gwr w h o = -1 then 0 else 1, M') ∧ Fr sV M M' := by
  obtain ⟨M1, r1, f1⟩ := Q_won P (p := 0) (by omega)
  have P1 := P.fr f1 sV_pond
  obtain ⟨M2, r2, f2⟩ := Q_won P1 (p := 1) (by omega)
  unfold fX14_over
  rw [r1, bd2_s]
  rcases gwr_is P.1 P.2.1 with ⟨e, a, c⟩ | ⟨e, a, c⟩ | ⟨e, a, c⟩
  · rw [gat_t a, if_neg (by decide), e, if_neg (by decide)]
    exact ⟨M1, rfl, f1⟩
  · rw [gat_f a, if_pos rfl, r2, bd2_s, gat_t c, if_neg (by decide), e, if_neg (by decide)]
    exact ⟨M2, rfl, f1.trans f2⟩
  · rw [gat_f a, if_pos rfl, r2, bd2_s, gat_f c, if_pos rfl, e, if_pos rfl]
    exact ⟨M2, rfl, f1.trans f2⟩
/-- the model's refusal -/
theorem Q_no1 (M : ax_M) (c : Int) : (bd2 (fX14_no (mUI M 203 0 0) c) fun v104 M103 => (some (v104, M103))) = some (0, mUI (mUI M 203 0 0) 203 0 c) := rfl
theorem Q_not1 (M : ax_M) (c : Int) : (bd2 (fX14_isNot (mUI M 203 0 0) c) fun v104 M103 => (some (v104, M103))) = some (0, mUI (mUI M 203 0 0) 203 0 c) := rfl
theorem no_z (M : ax_M) (c : Int) : mI (mUI (mUI M 203 0 0) 203 0 c) 203 0 = c ∧ Fr sMm M (mUI (mUI M 203 0 0) 203 0 c) := ⟨mI_Us _ _ _ _, (sMm_z M 0).trans (sMm_z _ c)⟩
theorem z0 (M : ax_M) : mI (mUI M 203 0 0) 203 0 = 0 := mI_Us _ _ _ _
theorem sM0 {A B : ax_M} (f : Fr sM A B) (h : mI A 203 0 = 0) : mI B 203 0 = 0 := by rw [f.2 203 0 (by unfold sM; omega)]; exact h
theorem sV0 {A B : ax_M} (f : Fr sV A B) (h : mI A 203 0 = 0) : mI B 203 0 = 0 := by rw [f.2 203 0 (by unfold sV; omega)]; exact h
theorem sMv0 {A B : ax_M} (f : Fr sMv A B) (h : mI A 203 0 = 0) : mI B 203 0 = 0 := by rw [f.2 203 0 (by unfold sMv; omega)]; exact h
theorem K_stonesOf (I : gI M q q' w h o k b T e) (hz : 94 ≤ mSz M) (p : Int) : gCx M (fL_stonesOf M p) (fun M1 => fX14_stonesOf M1 p) il := by
  by_cases hp : p = 0 ∨ p = 1
  · refine K_ok I rfl (nn9 M) (V := il (gcn (fun c => o c = p + 1) 81)) ?_ (fun M1 I1 => ⟨_, _, ?_, rfl, z0 M1, sMm_z M1 0⟩)
    · unfold fL_stonesOf fX12_stonesOf
      rw [C_rp1 M hp, bdT_l, bdC_l, C_stonesOf I.2.1 hp]
    · show fX14_stonesOf M1 p = _
      unfold fX14_stonesOf
      rw [Q_ip1 _ hp, if_neg (by decide), Q_countP (I1.z 0).2.2.1 hp, bd1_s]
  · refine K_no I hz rfl (nn9 M) (c := 1) (t := 15) ?_ (by decide) (fun M1 I1 => ⟨0, _, ?_, (no_z M1 1).1, (no_z M1 1).2⟩)
    · unfold fL_stonesOf fX12_stonesOf
      rw [C_rp0 M hp, bdT_r, bdC_r, if_pos rfl]
    · show fX14_stonesOf M1 p = _
      unfold fX14_stonesOf
      rw [Q_ip0 _ hp, if_pos rfl, Q_no1]
theorem K_isEmpty (I : gI M q q' w h o k b T e) (hz : 94 ≤ mSz M) (x y : Int) : gCx M (fL_isEmpty M x y) (fun M1 => fX14_isEmpty M1 x y) cvB := by
  by_cases z : 0 ≤ x ∧ x < w ∧ 0 ≤ y ∧ y < h
  · have c := gcell_b I.2.1.k z
    refine K_ok I rfl (nn9 M) (V := cvB (if o (gCell w h x y) = 0 then 1 else 0)) ?_ (fun M1 I1 => ⟨_, _, ?_, rfl, z0 M1, sMm_z M1 0⟩)
    · unfold fL_isEmpty fX12_isEmpty
      rw [C_rc1 I.2.1 z, bdT_l, P_own I.2.1]
      by_cases y : o (gCell w h x y) = 0
      · rw [if_pos y, if_pos y, bdC_l, cvB_eq]
      · rw [if_neg y, if_neg y, bdC_l, cvB_eq]
    · have P := (I1.z 0).2.2.1
      show fX14_isEmpty M1 x y = _
      unfold fX14_isEmpty
      rw [Q_on1 P z, if_neg (by decide), Q_at P z, if_pos ⟨c.1, by omega⟩, P.2.2.2.2 _ c.1 (by omega)]
      by_cases y : o (gCell w h x y) = 0
      · rw [if_pos y, if_pos (by omega)]
      · rw [if_neg y, if_neg (by omega)]
  · refine K_no I hz rfl (nn9 M) (c := 1) (t := 15) ?_ (by decide) (fun M1 I1 => ⟨0, _, ?_, (no_z M1 1).1, (no_z M1 1).2⟩)
    · unfold fL_isEmpty fX12_isEmpty
      rw [C_rc0 I.2.1 z, bdT_r, bdC_r, if_pos rfl]
    · show fX14_isEmpty M1 x y = _
      unfold fX14_isEmpty
      rw [Q_on0 (I1.z 0).2.2.1 z, if_pos rfl, Q_not1]
/-- what asks for a stone, where none is -/
theorem K_stone {F : Option (Int × ax_M)} {G : ax_M → Option (Int × ax_M)} (I : gI M q q' w h o k b T e) (hz : 94 ≤ mSz M) (x y : Int) (h0 : fX12_requiredStone M x y = some (.inr "java/lang/IndexOutOfBoundsException", mAl M 15 0 6) → F = some (1, mAl M 15 0 6)) (h2 : fX12_requiredStone M x y = some (.inr "java/lang/IllegalStateException", mAl M 13 0 6) → F = some (2, mAl M 13 0 6)) (hG : ∀ M1 c, 0 < c → fX14_stoneAt M1 x y = some (0, mUI M1 203 0 c) → G M1 = some (0, mUI M1 203 0 c)) (ok : (0 ≤ x ∧ x < w ∧ 0 ≤ y ∧ y < h) → o (gCell w h x y) ≠ 0 → gCx M F G il) : gCx M F G il := by
  by_cases z : 0 ≤ x ∧ x < w ∧ 0 ≤ y ∧ y < h
  · by_cases ho : o (gCell w h x y) = 0
    · exact K_no I hz rfl (nn9 M) (c := 2) (t := 13) (h2 (C_rs2 I.2.1 z ho)) (by decide) (fun M1 I1 => ⟨_, _, hG M1 2 (by decide) (Q_sa2 I1.2.2.1 z ho), mI_Us _ _ _ _, sMm_z M1 2⟩)
    · exact ok z ho
  · exact K_no I hz rfl (nn9 M) (c := 1) (t := 15) (h0 (C_rs0 I.2.1 z)) (by decide) (fun M1 I1 => ⟨_, _, hG M1 1 (by decide) (Q_sa0 I1.2.2.1 z), mI_Us _ _ _ _, sMm_z M1 1⟩)
theorem K_ownerOf (I : gI M q q' w h o k b T e) (hz : 94 ≤ mSz M) (x y : Int) : gCx M (fL_ownerOf M x y) (fun M1 => fX14_ownerOf M1 x y) il := by
  refine K_stone I hz x y (fun r => ?_) (fun r => ?_) (fun M1 c hc r => ?_) (fun z ho => ?_)
  · unfold fL_ownerOf fX12_ownerOf
    rw [r, bdT_r, bdC_r, if_pos rfl]
  · unfold fL_ownerOf fX12_ownerOf
    rw [r, bdT_r, bdC_r, if_neg (by decide), if_pos rfl]
  · show fX14_ownerOf M1 x y = _
    unfold fX14_ownerOf
    rw [r, bd2_s]
  · have ob := I.2.1.2.1.2 (gCell w h x y)
    refine K_ok I rfl (nn9 M) (V := il (o (gCell w h x y) - 1)) ?_ (fun M1 I1 => ⟨_, _, ?_, rfl, z0 M1, sMm_z M1 0⟩)
    · unfold fL_ownerOf fX12_ownerOf
      rw [C_rs1 I.2.1 z ho, bdT_l, bdC_l, P_own I.2.1, wr_eq (by omega) (by omega)]
    · show fX14_ownerOf M1 x y = _
      unfold fX14_ownerOf
      rw [Q_sa1 I1.2.2.1 z ho, bd2_s]
theorem K_hasWon (I : gI M q q' w h o k b T e) (hz : 94 ≤ mSz M) (p : Int) : gCx M (fL_hasWon M p) (fun M1 => fX14_hasWon M1 p) cvB := by
  by_cases hp : p = 0 ∨ p = 1
  · obtain ⟨N, r, W, f, A⟩ := C_winner I.2.1 I.2.2.2.1
    refine K_ok (I.cw f W) (f22 f) (f9 f sU9) (V := cvB (gat (gwon w h o p))) ?_ (fun M1 I1 => ?_)
    · unfold fL_hasWon fX12_hasWon
      rw [C_rp1 M hp, bdT_l, r, bd2_s]
      have g := gwr_is I.2.1.k I.2.1.2.1
      have e : gat (gwon w h o p) = if gwr w h o = p then 1 else 0 := by
        rcases hp with rfl | rfl <;> rcases g with ⟨e, a, c⟩ | ⟨e, a, c⟩ | ⟨e, a, c⟩
        · rw [gat_t a, e, if_pos rfl]
        · rw [gat_f a, e, if_neg (by decide)]
        · rw [gat_f a, e, if_neg (by decide)]
        · rw [gat_f c, e, if_neg (by decide)]
        · rw [gat_t c, e, if_pos rfl]
        · rw [gat_f c, e, if_neg (by decide)]
      rw [e]
      by_cases y : gwr w h o = p
      · rw [if_pos y, if_pos y, bdC_l, cvB_eq]
      · rw [if_neg y, if_neg y, bdC_l, cvB_eq]
    · obtain ⟨M2, r2, f2⟩ := Q_won (I1.z 0).2.2.1 (p := p) (by omega)
      refine ⟨_, M2, ?_, rfl, sV0 f2 (z0 M1), (sMm_z M1 0).trans (sV_mm f2)⟩
      show fX14_hasWon M1 p = _
      unfold fX14_hasWon
      rw [Q_ip1 _ hp, if_neg (by decide), r2, bd2_s]
  · refine K_no I hz rfl (nn9 M) (c := 1) (t := 15) ?_ (by decide) (fun M1 I1 => ⟨0, _, ?_, (no_z M1 1).1, (no_z M1 1).2⟩)
    · unfold fL_hasWon fX12_hasWon
      rw [C_rp0 M hp, bdT_r, bdC_r, if_pos rfl]
    · show fX14_hasWon M1 p = _
      unfold fX14_hasWon
      rw [Q_ip0 _ hp, if_pos rfl, Q_not1]
theorem nx_2 {S : Nat → Nat → Prop} (I : gI N q q' w h o k b T e) (f : Fr S M N) (hS : ¬ S 169 9) (f2 : Fr sMm N M2) : gNx M M2 := by
  have z : M2.2.2.2 = M.2.2.2 := by rw [f2.1, f.1]
  have n9 := mo_9 f2
  have n9' := f.2 169 9 hS
  refine ⟨⟨q, q', w, h, o, k, b, T, e, I.mo f2⟩, ?_, ?_, ?_, by omega, by omega⟩
  · show M.2.2.2.1 ≤ M2.2.2.2.1; rw [z]; exact Nat.le_refl _
  · show M2.2.2.2.1 ≤ M.2.2.2.1 + 2; rw [z]; omega
  · show M2.2.2.2.2.1 ≤ M.2.2.2.2.1 + 20; rw [z]; omega
theorem K_isOver (I : gI M q q' w h o k b T e) : gCy M (fX12_isOver M) fX14_isOver := by
  obtain ⟨N, r, W, f, A⟩ := C_winner I.2.1 I.2.2.2.1
  have I1 := I.cw f W
  obtain ⟨M2, r2, f2⟩ := Q_over (I1.z 0).2.2.1
  refine ⟨if gwr w h o = -1 then 0 else 1, N, M2, ?_, ?_, nx_2 I1 f sU9 ((sMm_z N 0).trans (sV_mm f2))⟩
  · unfold fX12_isOver
    rw [r, bd2_s]
    by_cases y : gwr w h o = -1
    · rw [if_pos y, if_pos y]
    · rw [if_neg y, if_neg y]
  · unfold fX14_isOver
    rw [r2, bd2_s]
/-- what needs a game that goes on -/
theorem K_on {F : Option (Int × ax_M)} {G : ax_M → Option (Int × ax_M)} (I : gI M q q' w h o k b T e) (hz : 94 ≤ mSz M) (c : Int) (hc : c ≠ 0) (h0 : ∀ N, fX12_requireGameOn M = some (.inr "java/lang/IllegalStateException", mAl N 13 0 6) → F = some (c, mAl N 13 0 6)) (hG : ∀ M1 M2, gI M1 q q' w h o k b T e → fX14_over (mUI M1 203 0 0) = some (1, M2) → G M1 = some (0, mUI M2 203 0 c)) (ok : ∀ N, gI N q q' w h o k b T e → Fr sU M N → gAll N w h o → fX12_requireGameOn M = some (.inl (), N) → (∀ M1, gI M1 q q' w h o k b T e → ∃ M2, fX14_over (mUI M1 203 0 0) = some (0, M2) ∧ Fr sMm M1 M2 ∧ mI M2 203 0 = 0) → gwr w h o = -1 → gCx M F G il) : gCx M F G il := by
  obtain ⟨N, r, W, f, A⟩ := C_winner I.2.1 I.2.2.2.1
  have rg : fX12_requireGameOn M = if gwr w h o = -1 then some (.inl (), N) else some (.inr "java/lang/IllegalStateException", mAl N 13 0 6) := by
    unfold fX12_requireGameOn
    rw [r, bd2_s]
  by_cases y : gwr w h o = -1
  · rw [if_pos y] at rg
    refine ok N (I.cw f W) f A rg (fun M1 I1 => ?_) y
    obtain ⟨M2, r2, f2⟩ := Q_over (I1.z 0).2.2.1
    rw [if_pos y] at r2
    exact ⟨M2, r2, (sMm_z M1 0).trans (sV_mm f2), sV0 f2 (z0 M1)⟩
  · rw [if_neg y] at rg
    refine K_no (I.cw f W) hz (f22 f) (f9 f sU9) (h0 N rg) hc (fun M1 I1 => ?_)
    obtain ⟨M2, r2, f2⟩ := Q_over (I1.z 0).2.2.1
    rw [if_neg y] at r2
    exact ⟨0, _, hG M1 M2 I1 r2, mI_Us _ _ _ _, ((sMm_z M1 0).trans (sV_mm f2)).trans (sMm_z M2 c)⟩
theorem K_playerInTurn (I : gI M q q' w h o k b T e) (hz : 94 ≤ mSz M) : gCx M (fL_playerInTurn M) fX14_playerInTurn il := by
  refine K_on I hz 1 (by decide) (fun N r => ?_) (fun M1 M2 _ r => ?_) (fun N IN f A r hO y => ?_)
  · unfold fL_playerInTurn fX12_playerInTurn
    rw [r, bdT_r, bdC_r, if_pos rfl]
  · unfold fX14_playerInTurn
    rw [r, bd2_s, if_neg (by decide)]
    rfl
  · refine K_ok IN (f22 f) (f9 f sU9) (V := il (gturn o)) ?_ (fun M1 I1 => ?_)
    · unfold fL_playerInTurn fX12_playerInTurn
      rw [r, bdT_l, bdC_l, C_turn IN.2.1]
    · obtain ⟨M2, r2, f2, e0⟩ := hO M1 I1
      refine ⟨_, M2, ?_, rfl, e0, f2⟩
      unfold fX14_playerInTurn
      rw [r2, bd2_s, if_pos rfl, Q_turn (I1.mo f2).2.2.1, bd1_s]
theorem K_stonesBeside (I : gI M q q' w h o k b T e) (hz : 94 ≤ mSz M) (p x y : Int) : gCx M (fL_stonesBeside M p x y) (fun M1 => fX14_stonesBeside M1 p x y) il := by
  by_cases hp : p = 0 ∨ p = 1
  · by_cases z : 0 ≤ x ∧ x < w ∧ 0 ≤ y ∧ y < h
    · refine K_ok I rfl (nn9 M) (V := il (gcn (fun s => o (gbs w h (gCell w h x y) s) = p + 1) 6)) ?_ (fun M1 I1 => ⟨_, _, ?_, rfl, z0 M1, sMm_z M1 0⟩)
      · unfold fL_stonesBeside fX12_stonesBeside
        rw [C_rp1 M hp, bdT_l, C_rc1 I.2.1 z, bdT_l, C_besideN I.2.1 hp, bd1_s, bdC_l]
      · have P := (I1.z 0).2.2.1
        show fX14_stonesBeside M1 p x y = _
        unfold fX14_stonesBeside
        rw [Q_ip1 _ hp, if_neg (by decide), Q_on1 P z, if_neg (by decide), Q_besideN P hp z, bd1_s]
    · refine K_no I hz rfl (nn9 M) (c := 1) (t := 15) ?_ (by decide) (fun M1 I1 => ⟨0, _, ?_, (no_z M1 1).1, (no_z M1 1).2⟩)
      · unfold fL_stonesBeside fX12_stonesBeside
        rw [C_rp1 M hp, bdT_l, C_rc0 I.2.1 z, bdT_r, bdC_r, if_pos rfl]
      · show fX14_stonesBeside M1 p x y = _
        unfold fX14_stonesBeside
        rw [Q_ip1 _ hp, if_neg (by decide), Q_on0 (I1.z 0).2.2.1 z, if_pos rfl, Q_no1]
  · refine K_no I hz rfl (nn9 M) (c := 1) (t := 15) ?_ (by decide) (fun M1 I1 => ⟨0, _, ?_, (no_z M1 1).1, (no_z M1 1).2⟩)
    · unfold fL_stonesBeside fX12_stonesBeside
      rw [C_rp0 M hp, bdT_r, bdC_r, if_pos rfl]
    · show fX14_stonesBeside M1 p x y = _
      unfold fX14_stonesBeside
      rw [Q_ip0 _ hp, if_pos rfl, Q_no1]
theorem K_groupSize (I : gI M q q' w h o k b T e) (hz : 94 ≤ mSz M) (x y : Int) : gCx M (fL_groupSize M x y) (fun M1 => fX14_groupSize M1 x y) il := by
  refine K_stone I hz x y (fun r => ?_) (fun r => ?_) (fun M1 c hc r => ?_) (fun z ho => ?_)
  · unfold fL_groupSize fX12_groupSize
    rw [r, bdT_r, bdC_r, if_pos rfl]
  · unfold fL_groupSize fX12_groupSize
    rw [r, bdT_r, bdC_r, if_neg (by decide), if_pos rfl]
  · show fX14_groupSize M1 x y = _
    unfold fX14_groupSize
    rw [r, bd2_s, mI_Us, if_pos hc]
  · have cb := gcell_b I.2.1.k z
    have hk := gOk_le I.2.1.k
    have ob := I.2.1.2.1.2 (gCell w h x y)
    obtain ⟨v, hv⟩ : ∃ v, o (gCell w h x y) = v := ⟨_, rfl⟩
    rw [hv] at ob
    have v1 : 1 ≤ v := by rw [← hv]; rw [hv] at ho ⊢; omega
    obtain ⟨N, r, f⟩ := C_sizeAt I.2.1 cb.1 cb.2.1 hv v1
    refine K_ok (I.cg f) (f22 f) (f9 f sG9) (V := il (gsz w h o v (gCell w h x y))) ?_ (fun M1 I1 => ?_)
    · unfold fL_groupSize fX12_groupSize
      rw [C_rs1 I.2.1 z ho, bdT_l, r, bd2_s, bdC_l]
    · obtain ⟨M2, r2, f2, G⟩ := Q_gather (I1.z 0).2.2.1 (p := v - 1) (by omega)
      rw [show v - 1 + 1 = v by omega] at G
      have P2 := ((I1.z 0).mo (sM_mm f2)).2.2.1
      obtain ⟨g1, _, g3⟩ := G
      obtain ⟨a0, a1, a2, _⟩ := g3 _ cb.1 cb.2.1 hv
      have gb := gcn_b (gnew w h o v) (w * h).toNat
      refine ⟨_, M2, ?_, rfl, sM0 f2 (z0 M1), (sMm_z M1 0).trans (sM_mm f2)⟩
      show fX14_groupSize M1 x y = _
      unfold fX14_groupSize
      rw [Q_sa1 I1.2.2.1 z ho, bd2_s, z0, if_neg (by decide), hv, r2, bd1_s, Q_at P2 z, if_pos ⟨cb.1, by omega⟩, if_pos ⟨a0, by omega⟩, a2]
theorem K_shoresOf (I : gI M q q' w h o k b T e) (hz : 94 ≤ mSz M) (x y : Int) : gCx M (fL_shoresOf M x y) (fun M1 => fX14_shoresOf M1 x y) il := by
  refine K_stone I hz x y (fun r => ?_) (fun r => ?_) (fun M1 c hc r => ?_) (fun z ho => ?_)
  · unfold fL_shoresOf fX12_shoresOf
    rw [r, bdT_r, bdC_r, if_pos rfl]
  · unfold fL_shoresOf fX12_shoresOf
    rw [r, bdT_r, bdC_r, if_neg (by decide), if_pos rfl]
  · show fX14_shoresOf M1 x y = _
    unfold fX14_shoresOf
    rw [r, bd2_s, mI_Us, if_pos hc]
  · have cb := gcell_b I.2.1.k z
    have ob := I.2.1.2.1.2 (gCell w h x y)
    obtain ⟨v, hv⟩ : ∃ v, o (gCell w h x y) = v := ⟨_, rfl⟩
    rw [hv] at ob
    have v1 : 1 ≤ v := by rw [hv] at ho; omega
    obtain ⟨N, r, f⟩ := C_shoresAt I.2.1 cb.1 cb.2.1 hv v1
    refine K_ok (I.cg f) (f22 f) (f9 f sG9) (V := il (gshs w h o v (v - 1) (gCell w h x y))) ?_ (fun M1 I1 => ?_)
    · unfold fL_shoresOf fX12_shoresOf
      rw [C_rs1 I.2.1 z ho, bdT_l, r, bd2_s, bdC_l]
    · obtain ⟨M2, r2, f2, G⟩ := Q_gather (I1.z 0).2.2.1 (p := v - 1) (by omega)
      rw [show v - 1 + 1 = v by omega] at G
      have P2 := ((I1.z 0).mo (sM_mm f2)).2.2.1
      have s0 := Q_hasShore P2 G cb.1 cb.2.1 hv (v - 1) 0
      have s1 := Q_hasShore P2 G cb.1 cb.2.1 hv (v - 1) 1
      refine ⟨gshs w h o v (v - 1) (gCell w h x y), M2, ?_, rfl, sM0 f2 (z0 M1), (sMm_z M1 0).trans (sM_mm f2)⟩
      show fX14_shoresOf M1 x y = _
      unfold fX14_shoresOf gshs
      rw [Q_sa1 I1.2.2.1 z ho, bd2_s, z0, if_neg (by decide), hv, r2, bd1_s, Q_at P2 z, if_pos ⟨cb.1, by omega⟩, s0, bd1_s, s1, bd1_s]
      rcases gat_b (∃ c : Int, gG w h o v (gCell w h x y) c ∧ gsh w h (v - 1) 0 c) with g0 | g0 <;> rcases gat_b (∃ c : Int, gG w h o v (gCell w h x y) c ∧ gsh w h (v - 1) 1 c) with g1 | g1
      · rw [g0, g1, if_pos rfl, if_pos rfl]
      · rw [g0, g1, if_pos rfl, if_neg (by decide)]
      · rw [g0, g1, if_neg (by decide), bd1_s, if_pos rfl]
      · rw [g0, g1, if_neg (by decide), bd1_s, if_neg (by decide)]
theorem K_groupsOf (I : gI M q q' w h o k b T e) (hz : 94 ≤ mSz M) (p : Int) : gCx M (fL_groupsOf M p) (fun M1 => fX14_groupsOf M1 p) il := by
  by_cases hp : p = 0 ∨ p = 1
  · obtain ⟨N, r, f, c4, c5⟩ := C_look I.2.1 hp
    refine K_ok (I.cg f) (f22 f) (f9 f sG9) (V := il (gcn (gnew w h o (p + 1)) (w * h).toNat)) ?_ (fun M1 I1 => ?_)
    · unfold fL_groupsOf fX12_groupsOf fX4_count
      rw [C_rp1 M hp, bdT_l, r, bd1_s, bdC_l, c4]
    · obtain ⟨M2, r2, f2⟩ := Q_groups (I1.z 0).2.2.1 hp
      refine ⟨_, M2, ?_, rfl, sM0 f2 (z0 M1), (sMm_z M1 0).trans (sM_mm f2)⟩
      show fX14_groupsOf M1 p = _
      unfold fX14_groupsOf
      rw [Q_ip1 _ hp, if_neg (by decide), r2, bd2_s]
  · refine K_no I hz rfl (nn9 M) (c := 1) (t := 15) ?_ (by decide) (fun M1 I1 => ⟨0, _, ?_, (no_z M1 1).1, (no_z M1 1).2⟩)
    · unfold fL_groupsOf fX12_groupsOf
      rw [C_rp0 M hp, bdT_r, bdC_r, if_pos rfl]
    · show fX14_groupsOf M1 p = _
      unfold fX14_groupsOf
      rw [Q_ip0 _ hp, if_pos rfl, Q_no1]
theorem K_greatestGroup (I : gI M q q' w h o k b T e) (hz : 94 ≤ mSz M) (p : Int) : gCx M (fL_greatestGroup M p) (fun M1 => fX14_greatestGroup M1 p) il := by
  by_cases hp : p = 0 ∨ p = 1
  · obtain ⟨N, r, f, c4, c5⟩ := C_look I.2.1 hp
    refine K_ok (I.cg f) (f22 f) (f9 f sG9) (V := il (gmx (gnew w h o (p + 1)) (gsz w h o (p + 1)) (w * h).toNat)) ?_ (fun M1 I1 => ?_)
    · unfold fL_greatestGroup fX12_greatestGroup fX4_greatest
      rw [C_rp1 M hp, bdT_l, r, bd1_s, bdC_l, c5]
    · obtain ⟨M2, r2, f2⟩ := Q_greatest (I1.z 0).2.2.1 hp
      refine ⟨_, M2, ?_, rfl, sM0 f2 (z0 M1), (sMm_z M1 0).trans (sM_mm f2)⟩
      show fX14_greatestGroup M1 p = _
      unfold fX14_greatestGroup
      rw [Q_ip1 _ hp, if_neg (by decide), r2, bd2_s]
  · refine K_no I hz rfl (nn9 M) (c := 1) (t := 15) ?_ (by decide) (fun M1 I1 => ⟨0, _, ?_, (no_z M1 1).1, (no_z M1 1).2⟩)
    · unfold fL_greatestGroup fX12_greatestGroup
      rw [C_rp0 M hp, bdT_r, bdC_r, if_pos rfl]
    · show fX14_greatestGroup M1 p = _
      unfold fX14_greatestGroup
      rw [Q_ip0 _ hp, if_pos rfl, Q_no1]
theorem Q_isCell (P : Md M w h o) (c : Int) : fX14_isCell M c = if 0 ≤ c ∧ c < w * h then 1 else 0 := by
  have hk := gOk_le P.1
  unfold fX14_isCell
  rw [Q_cells P, wr_eq (by omega) (by omega), Q_in]
  by_cases z : 0 ≤ c ∧ c < w * h
  · rw [if_pos z, if_pos (by omega)]
  · rw [if_neg z, if_neg (by omega)]
theorem K_isBridge (I : gI M q q' w h o k b T e) (hz : 94 ≤ mSz M) (x y : Int) : gCx M (fL_isBridge M x y) (fun M1 => fX14_isBridge M1 x y) cvB := by
  have bad : ¬ (0 ≤ x ∧ x < w * h) ∨ ¬ (0 ≤ y ∧ y < w * h) → gCx M (fL_isBridge M x y) (fun M1 => fX14_isBridge M1 x y) cvB := fun z => by
    refine K_no I hz rfl (nn9 M) (c := 1) (t := 15) ?_ (by decide) (fun M1 I1 => ⟨0, _, ?_, (no_z M1 1).1, (no_z M1 1).2⟩)
    · unfold fL_isBridge fX12_isBridge
      rw [P_has I.2.1.1, P_has I.2.1.1]
      by_cases zx : 0 ≤ x ∧ x < w * h
      · rw [if_pos zx, if_neg (by decide), if_neg (show ¬ (0 ≤ y ∧ y < w * h) by omega), if_pos rfl, bdC_r, if_pos rfl]
      · rw [if_neg zx, if_pos rfl, bdC_r, if_pos rfl]
    · show fX14_isBridge M1 x y = _
      unfold fX14_isBridge
      rw [Q_isCell (I1.z 0).2.2.1, Q_isCell (I1.z 0).2.2.1]
      by_cases zx : 0 ≤ x ∧ x < w * h
      · rw [if_pos zx, if_neg (by decide), if_neg (show ¬ (0 ≤ y ∧ y < w * h) by omega), if_pos rfl, Q_not1]
      · rw [if_neg zx, if_pos rfl, Q_not1]
  by_cases zx : 0 ≤ x ∧ x < w * h
  · by_cases zy : 0 ≤ y ∧ y < w * h
    · refine K_ok I rfl (nn9 M) (V := cvB (gat (gwhole w h o x y))) ?_ (fun M1 I1 => ⟨gat (gwhole w h o x y), _, ?_, rfl, z0 M1, sMm_z M1 0⟩)
      · unfold fL_isBridge fX12_isBridge
        rw [P_has1 I.2.1.1 zx.1 zx.2, P_has1 I.2.1.1 zy.1 zy.2, if_neg (by decide), if_neg (by decide), C_isWhole I.2.1 zx.1 zx.2 zy.1, bd1_s, bdC_l, cvB_eq]
      · have P := (I1.z 0).2.2.1
        obtain ⟨v0, r0, a0, b0⟩ := Q_bridge P (p := 0) (Or.inl rfl) zx.1 zx.2 zy.1 zy.2
        obtain ⟨v1, r1, a1, b1⟩ := Q_bridge P (p := 1) (Or.inr rfl) zx.1 zx.2 zy.1 zy.2
        show fX14_isBridge M1 x y = _
        unfold fX14_isBridge
        rw [Q_isCell P, Q_isCell P, if_pos zx, if_pos zy, if_neg (by decide), if_neg (by decide), r0, bd1_s, r1, bd1_s]
        by_cases y' : ∃ s : Int, 0 ≤ s ∧ s < 6 ∧ gfar w h x s = y
        · obtain ⟨s, s0, s1, sf⟩ := y'
          have e0 := b0 s s0 s1 sf
          have e1 := b1 s s0 s1 sf
          have ob := I.2.1.2.1.2 x
          have key : gwhole w h o x y ↔ gst w h o x s = 1 := by
            constructor
            · rintro ⟨t, t0, t1, tf, tg⟩
              have est := gfar_1 I.2.1.k zx.1 zx.2 t0 t1 s0 s1 (tf.trans sf.symm) (by omega)
              rw [← est]; exact tg
            · intro g
              exact ⟨s, s0, s1, sf, g⟩
          by_cases g : gst w h o x s = 1
          · rw [gat_t (key.mpr g)]
            have ox : o x ≠ 0 := fun z => by
              unfold gst at g
              rw [if_pos z] at g
              omega
            rcases ob with z | z | z
            · exact absurd z ox
            · rw [e0, if_pos (show o x = 0 + 1 by omega), if_pos g]
            · rw [e0, if_neg (show ¬ o x = 0 + 1 by omega), if_neg (by decide), e1, if_pos (show o x = 1 + 1 by omega), if_pos g]
          · rw [gat_f (fun z => g (key.mp z))]
            have n0 : ¬ v0 = 1 := by
              rw [e0]
              split
              · exact g
              · decide
            have n1 : ¬ v1 = 1 := by
              rw [e1]
              split
              · exact g
              · decide
            rw [if_neg n0, if_neg n1]
        · have hn : ∀ s : Int, 0 ≤ s → s < 6 → gfar w h x s ≠ y := fun s s0 s1 sf => y' ⟨s, s0, s1, sf⟩
          rw [a0 hn, a1 hn, if_neg (by decide), if_neg (by decide), gat_f]
          rintro ⟨s, s0, s1, sf, _⟩
          exact y' ⟨s, s0, s1, sf⟩
    · exact bad (Or.inr zy)
  · exact bad (Or.inl zx)
theorem K_bridgesOf (I : gI M q q' w h o k b T e) (hz : 94 ≤ mSz M) (p : Int) : gCx M (fL_bridgesOf M p) (fun M1 => fX14_bridgesOf M1 p) il := by
  by_cases hp : p = 0 ∨ p = 1
  · obtain ⟨N, r, B, BI, f⟩ := C_bridges I.2.1 I.2.2.2.2.1
    refine K_ok (I.cb f B) (f22 f) (f9 f sB9) (V := il (gcn (gbp w h o p 1) (3 * (w * h)).toNat)) ?_ (fun M1 I1 => ⟨_, _, ?_, rfl, z0 M1, sMm_z M1 0⟩)
    · unfold fL_bridgesOf fX12_bridgesOf fX1_whole
      rw [C_rp1 M hp, bdT_l, r, bd1_s, bdC_l, if_neg (by omega), if_pos (by omega), (BI p hp).1]
    · show fX14_bridgesOf M1 p = _
      unfold fX14_bridgesOf
      rw [Q_ip1 _ hp, if_neg (by decide), Q_bridges (I1.z 0).2.2.1 hp (Or.inl rfl), bd1_s]
  · refine K_no I hz rfl (nn9 M) (c := 1) (t := 15) ?_ (by decide) (fun M1 I1 => ⟨0, _, ?_, (no_z M1 1).1, (no_z M1 1).2⟩)
    · unfold fL_bridgesOf fX12_bridgesOf
      rw [C_rp0 M hp, bdT_r, bdC_r, if_pos rfl]
    · show fX14_bridgesOf M1 p = _
      unfold fX14_bridgesOf
      rw [Q_ip0 _ hp, if_pos rfl, Q_no1]
theorem K_brokenBridgesOf (I : gI M q q' w h o k b T e) (hz : 94 ≤ mSz M) (p : Int) : gCx M (fL_brokenBridgesOf M p) (fun M1 => fX14_brokenBridgesOf M1 p) il := by
  by_cases hp : p = 0 ∨ p = 1
  · obtain ⟨N, r, B, BI, f⟩ := C_bridges I.2.1 I.2.2.2.2.1
    refine K_ok (I.cb f B) (f22 f) (f9 f sB9) (V := il (gcn (gbp w h o p 2) (3 * (w * h)).toNat)) ?_ (fun M1 I1 => ⟨_, _, ?_, rfl, z0 M1, sMm_z M1 0⟩)
    · unfold fL_brokenBridgesOf fX12_brokenBridgesOf fX1_broken
      rw [C_rp1 M hp, bdT_l, r, bd1_s, bdC_l, if_neg (by omega), if_pos (by omega), (BI p hp).2.1]
    · show fX14_brokenBridgesOf M1 p = _
      unfold fX14_brokenBridgesOf
      rw [Q_ip1 _ hp, if_neg (by decide), Q_bridges (I1.z 0).2.2.1 hp (Or.inr rfl), bd1_s]
  · refine K_no I hz rfl (nn9 M) (c := 1) (t := 15) ?_ (by decide) (fun M1 I1 => ⟨0, _, ?_, (no_z M1 1).1, (no_z M1 1).2⟩)
    · unfold fL_brokenBridgesOf fX12_brokenBridgesOf
      rw [C_rp0 M hp, bdT_r, bdC_r, if_pos rfl]
    · show fX14_brokenBridgesOf M1 p = _
      unfold fX14_brokenBridgesOf
      rw [Q_ip0 _ hp, if_pos rfl, Q_no1]
theorem K_isFrozen (I : gI M q q' w h o k b T e) (hz : 94 ≤ mSz M) (x y : Int) : gCx M (fL_isFrozen M x y) (fun M1 => fX14_isFrozen M1 x y) cvB := by
  by_cases z : 0 ≤ x ∧ x < w ∧ 0 ≤ y ∧ y < h
  · have c := gcell_b I.2.1.k z
    refine K_ok I rfl (nn9 M) (V := cvB (gat (gfz w h o (gCell w h x y)))) ?_ (fun M1 I1 => ?_)
    · unfold fL_isFrozen fX12_isFrozen
      rw [C_rc1 I.2.1 z, bdT_l, C_iced I.2.1 c.1 c.2.1, bd1_s, bdC_l, cvB_eq]
    · have P := (I1.z 0).2.2.1
      obtain ⟨M2, r2, f2⟩ := Q_frozen P c.1 c.2.1
      refine ⟨_, M2, ?_, rfl, sM0 f2 (z0 M1), (sMm_z M1 0).trans (sM_mm f2)⟩
      show fX14_isFrozen M1 x y = _
      unfold fX14_isFrozen
      rw [Q_on1 P z, if_neg (by decide), Q_at P z, r2, bd2_s]
  · refine K_no I hz rfl (nn9 M) (c := 1) (t := 15) ?_ (by decide) (fun M1 I1 => ⟨0, _, ?_, (no_z M1 1).1, (no_z M1 1).2⟩)
    · unfold fL_isFrozen fX12_isFrozen
      rw [C_rc0 I.2.1 z, bdT_r, bdC_r, if_pos rfl]
    · show fX14_isFrozen M1 x y = _
      unfold fX14_isFrozen
      rw [Q_on0 (I1.z 0).2.2.1 z, if_pos rfl, Q_not1]
end CL2
