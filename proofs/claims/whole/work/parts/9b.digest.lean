/-! part C: the calls, one by one: the digest -/
def gdf (f : Nat → Int) (d : Int64) : Nat → Int64
  | 0 => d
  | n + 1 => gdf f d n * (31 : Int64) + il (f n)
def gdp (d : Int64) (a1 a2 a3 a4 a5 a6 a7 a8 : Int) : Int64 := ((((((((((((((((d * (31 : Int64)) + (il a1)) * (31 : Int64)) + (il a2)) * (31 : Int64)) + (il a3)) * (31 : Int64)) + (il a4)) * (31 : Int64)) + (il a5)) * (31 : Int64)) + (il a6)) * (31 : Int64)) + (il a7)) * (31 : Int64)) + (il a8))
noncomputable def gdq (w h : Int) (o : Int → Int) (d : Int64) (p : Int) : Int64 := gdp d (gcn (fun c => o c = p + 1) 81) (gat (gwon w h o p)) (gcn (gnew w h o (p + 1)) (w * h).toNat) (gmx (gnew w h o (p + 1)) (gsz w h o (p + 1)) (w * h).toNat) (gcn (gbp w h o p 1) (3 * (w * h)).toNat) (gcn (gbp w h o p 2) (3 * (w * h)).toNat) (gcn (gwinc w h o p) (w * h).toNat) (gneed w h o p)
def dgE (K : Nat) (P : ax_M) : Option (Int64 × ax_M) := (bd1 (lp (fun s => fX14_digest_b101 P K 8 s.1 s.2) lpN ((953 : Int64), 0)) fun t124 => (bd2 (fX14_digestPlayer P t124 0) fun v128 M127 => (bd2 (fX14_digestPlayer M127 v128 1) fun v131 M130 => (bd1 (lp (fun s => fX14_digest_b146 M130 s.1 s.2) lpN (v131, 0)) fun t135 => (some (t135, M130))))))
def dg7 (K : Nat) (P : ax_M) : Option (Int64 × ax_M) := (bd2 (fX14_over P) fun v116 M115 => (if v116 = 0 then (if axDy M115 K 8 then (if axDy (mUI M115 K 7 0) K 8 then dgE K (mUI M115 K 7 0) else none) else none) else (if axDy M115 K 8 then (if axDy (mUI M115 K 7 1) K 8 then dgE K (mUI M115 K 7 1) else none) else none)))
def dg6 (K : Nat) (P : ax_M) : Option (Int64 × ax_M) := (bd2 (fX14_allFrozen P) fun v112 M111 => (if axDy M111 K 8 then dg7 K (mUI M111 K 6 v112) else none))
def dg5 (K : Nat) (P : ax_M) : Option (Int64 × ax_M) := (bd1 (fX14_count P (-1)) fun v108 => (if axDy P K 8 then dg6 K (mUI P K 5 v108) else none))
def dg4 (K : Nat) (P : ax_M) : Option (Int64 × ax_M) := (if axDy P K 8 then dg5 K (mUI P K 4 (mI P 203 2)) else none)
def dg3 (K : Nat) (P : ax_M) : Option (Int64 × ax_M) := (if axDy P K 8 then dg4 K (mUI P K 3 (mI P 203 17)) else none)
def dg2 (K : Nat) (P : ax_M) : Option (Int64 × ax_M) := (if axDy P K 8 then dg3 K (mUI P K 2 (mI P 208 3)) else none)
def dg1 (K : Nat) (P : ax_M) : Option (Int64 × ax_M) := (if axDy P K 8 then dg2 K (mUI P K 1 (mI P 208 1)) else none)
def dg0 (K : Nat) (P : ax_M) : Option (Int64 × ax_M) := (if axDy P K 8 then dg1 K (mUI P K 0 (mI P 208 0)) else none)
set_option maxRecDepth 20000 in
theorem dg_eq (M : ax_M) : fX14_digest M = (if 94 ≤ mSz (mUI M 203 0 0) then dg0 (150 + mSz (mUI M 203 0 0)) (mAl (mUI M 203 0 0) 32 8 8) else none) := rfl
section CL8
variable {M M1 M2 N N' R P B : ax_M} {q q' : Nat} {w h : Int} {o o' : Int → Int} {k T e : Int} {b : Int → Int} {p x y c v u t n : Int} {K : Nat} {d : Int64}
theorem gwon_gat (kk : gOk w h) (g : gOwn w h o) (hp : p = 0 ∨ p = 1) : gat (gwon w h o p) = if gwr w h o = p then 1 else 0 := by
  rcases hp with rfl | rfl <;> rcases gwr_is kk g with ⟨e, a, c⟩ | ⟨e, a, c⟩ | ⟨e, a, c⟩
  · rw [gat_t a, e, if_pos rfl]
  · rw [gat_f a, e, if_neg (by decide)]
  · rw [gat_f a, e, if_neg (by decide)]
  · rw [gat_f c, e, if_neg (by decide)]
  · rw [gat_t c, e, if_pos rfl]
  · rw [gat_f c, e, if_neg (by decide)]
theorem C_dplayer (I : gI M q q' w h o k b T e) (hp : p = 0 ∨ p = 1) (d : Int64) : ∃ N, fX12_digestOfPlayer M d p = some (gdq w h o d p, N) ∧ gI N q q' w h o k b T e ∧ Fr (fun k _ => 176 ≤ k ∧ k ≤ 191) M N := by
  obtain ⟨N1, r1, f1, c4, c5⟩ := C_look I.2.1 hp
  have I1 := I.cg f1
  obtain ⟨N2, r2, B2, BI, f2⟩ := C_bridges I1.2.1 I1.2.2.2.2.1
  have I2 := I1.cb f2 B2
  obtain ⟨N3, r3, W3, f3, A3⟩ := C_ways I2.2.1 I2.2.2.2.1
  have I3 := I2.cw f3 W3
  obtain ⟨N4, r4, W4, f4, A4⟩ := C_winner I3.2.1 I3.2.2.2.1
  have I4 := I3.cw f4 W4
  have g176 : ∀ j, mI N4 176 j = mI N1 176 j := fun j => by rw [f4.2 176 j (by unfold sU; omega), f3.2 176 j (by unfold sU; omega), f2.2 176 j (by unfold sB; omega)]
  have BI4 := (BI.fr f3 (fun k j z => by unfold sU; omega)).fr f4 (fun k j z => by unfold sU; omega)
  have F : Fr (fun k _ => 176 ≤ k ∧ k ≤ 191) M N4 := (((f1.mono (fun k j z => by unfold sG at z; omega)).trans (f2.mono (fun k j z => by unfold sB at z; omega))).trans (f3.mono (fun k j z => by unfold sU at z; omega))).trans (f4.mono (fun k j z => by unfold sU at z; omega))
  refine ⟨N4, ?_, I4, F⟩
  unfold fX12_digestOfPlayer fX4_count fX4_greatest fX1_whole fX1_broken
  rw [r1, bd1_s, r2, bd1_s, r3, bd1_s, r4, bd2_s, C_winningCells I4.2.1 A4 hp, bd1_s, bd1_s, C_stonesOf I3.2.1 hp, g176, g176, c4, c5, C_needed A4 hp, if_neg (show ¬ p < 0 by omega), if_pos (show p < 2 by omega), if_neg (show ¬ p < 0 by omega), if_pos (show p < 2 by omega), (BI4 p hp).1, (BI4 p hp).2.1]
  unfold gdq gdp
  rw [gwon_gat I.2.1.k I.2.1.2.1 hp]
  by_cases y : gwr w h o = p
  · rw [if_pos y, if_pos y]
  · rw [if_neg y, if_neg y]
theorem Q_dplayer (P : Md M w h o) (hp : p = 0 ∨ p = 1) (d : Int64) : ∃ M', fX14_digestPlayer M d p = some (gdq w h o d p, M') ∧ Fr sM M M' := by
  obtain ⟨M1, r1, f1⟩ := Q_won P (p := p) (by omega)
  have P1 := P.fr f1 sV_pond
  obtain ⟨M2, r2, f2⟩ := Q_groups P1 hp
  have P2 := P1.fr f2 sM_pond
  obtain ⟨M3, r3, f3⟩ := Q_greatest P2 hp
  have P3 := P2.fr f3 sM_pond
  obtain ⟨M4, r4, f4⟩ := Q_winning0 P3 hp
  have P4 := P3.fr f4 sM_pond
  obtain ⟨M5, r5, f5⟩ := Q_needs P4 hp
  refine ⟨M5, ?_, ((((f1.mono sV_M).trans f2).trans f3).trans f4).trans f5⟩
  unfold fX14_digestPlayer
  rw [Q_countP P hp, bd1_s, r1, bd2_s]
  unfold gdq gdp
  rcases gat_b (gwon w h o p) with g | g
  · rw [g, if_pos rfl, r2, bd2_s, r3, bd2_s, Q_bridges P3 hp (Or.inl rfl), bd1_s, Q_bridges P3 hp (Or.inr rfl), bd1_s, r4, bd2_s, r5, bd2_s]
  · rw [g, if_neg (by decide), r2, bd2_s, r3, bd2_s, Q_bridges P3 hp (Or.inl rfl), bd1_s, Q_bridges P3 hp (Or.inr rfl), bd1_s, r4, bd2_s, r5, bd2_s]
theorem C_dcells (P : Pd M w h o) (d : Int64) : lp (fun s => fX12_digest_b124 M s.1 s.2) lpN (d, 0) = some (gdf (fun i => o (i : Int)) d (w * h).toNat) := by
  have hk := gOk_le P.k
  have key : ∃ r, lp (fun s => fX12_digest_b124 M s.1 s.2) lpN (d, 0) = some r ∧ r = gdf (fun i => o (i : Int)) d (w * h).toNat := by
    refine lpn (w * h).toNat (by omega) (fun i s => s = (gdf (fun i => o (i : Int)) d i, (i : Int))) _ _ rfl ?_ ?_
    · rintro i s hi rfl
      right
      refine ⟨(gdf (fun i => o (i : Int)) d (i + 1), (i : Int) + 1), ?_, rfl⟩
      show fX12_digest_b124 M (gdf (fun i => o (i : Int)) d i) (i : Int) = _
      unfold fX12_digest_b124
      rw [P_cells P.1, if_pos (by omega), P_own P]
      rfl
    · rintro s rfl
      refine ⟨_, ?_, rfl⟩
      show fX12_digest_b124 M (gdf (fun i => o (i : Int)) d (w * h).toNat) ((w * h).toNat : Int) = _
      unfold fX12_digest_b124
      rw [P_cells P.1, if_neg (by omega)]
  obtain ⟨r, e, rfl⟩ := key
  exact e
theorem Q_dcells (P : Md M w h o) (d : Int64) : lp (fun s => fX14_digest_b146 M s.1 s.2) lpN (d, 0) = some (gdf (fun i => o (i : Int)) d (w * h).toNat) := by
  have hk := gOk_le P.1
  have key : ∃ r, lp (fun s => fX14_digest_b146 M s.1 s.2) lpN (d, 0) = some r ∧ r = gdf (fun i => o (i : Int)) d (w * h).toNat := by
    refine lpn (w * h).toNat (by omega) (fun i s => s = (gdf (fun i => o (i : Int)) d i, (i : Int))) _ _ rfl ?_ ?_
    · rintro i s hi rfl
      right
      refine ⟨(gdf (fun i => o (i : Int)) d (i + 1), (i : Int) + 1), ?_, rfl⟩
      have ob := P.2.1.2 (i : Int)
      have ei : mI M 233 (Int.toNat (i : Int)) = o i - 1 := P.2.2.2.2 (i : Int) (by omega) (by omega)
      show fX14_digest_b146 M (gdf (fun i => o (i : Int)) d i) (i : Int) = _
      unfold fX14_digest_b146
      rw [Q_cells P, if_pos (by omega), if_pos (by omega), ei, show o (i : Int) - 1 + 1 = o i by omega, wr_eq (by omega) (by omega)]
      rfl
    · rintro s rfl
      refine ⟨_, ?_, rfl⟩
      show fX14_digest_b146 M (gdf (fun i => o (i : Int)) d (w * h).toNat) ((w * h).toNat : Int) = _
      unfold fX14_digest_b146
      rw [Q_cells P, if_neg (by omega)]
  obtain ⟨r, e, rfl⟩ := key
  exact e
theorem Q_drow (hd : axDy M K 8) (f : Nat → Int) (hf : ∀ i, i < 8 → mI M K i = f i) (d : Int64) : lp (fun s => fX14_digest_b101 M K 8 s.1 s.2) lpN (d, 0) = some (gdf f d 8) := by
  have key : ∃ r, lp (fun s => fX14_digest_b101 M K 8 s.1 s.2) lpN (d, 0) = some r ∧ r = gdf f d 8 := by
    refine lpn 8 (by omega) (fun i s => s = (gdf f d i, (i : Int))) _ _ rfl ?_ ?_
    · rintro i s hi rfl
      right
      refine ⟨(gdf f d (i + 1), (i : Int) + 1), ?_, rfl⟩
      show fX14_digest_b101 M K 8 (gdf f d i) (i : Int) = _
      unfold fX14_digest_b101
      rw [if_pos (by omega), if_pos hd, if_pos (by omega), show Int.toNat (i : Int) = i from rfl, hf i hi]
      rfl
    · rintro s rfl
      refine ⟨_, ?_, rfl⟩
      show fX14_digest_b101 M K 8 (gdf f d 8) ((8 : Nat) : Int) = _
      unfold fX14_digest_b101
      rw [if_neg (by omega)]
  obtain ⟨r, e, rfl⟩ := key
  exact e
theorem gI.dy (I : gI P q q' w h o k b T e) (hK : 244 ≤ K) (j : Nat) (v : Int) : gI (mUI P K j v) q q' w h o k b T e := by
  have f : Fx (fun _ _ => False) P (mUI P K j v) := fun a c ha _ => ⟨mI_Un (by omega), rfl⟩
  exact I.keep (f.mono (fun _ _ _ z => z.elim)) (I.2.2.2.1.x f (fun _ _ _ z => z)) (I.2.2.2.2.1.x f (fun _ _ _ z => z))
theorem axDy.fr {S : Nat → Nat → Prop} {m : Nat} (hd : axDy P K m) (f : Fr S P N) : axDy N K m := by
  unfold axDy
  show 244 ≤ K ∧ K < 150 + N.2.2.2.1 ∧ N.2.2.2.2.2 K = (32, m)
  rw [f.1]
  exact hd
/-- the row of eight that begins the digest -/
noncomputable def grow (w h : Int) (o : Int → Int) (k T pl : Int) : Nat → Int
  | 0 => w
  | 1 => h
  | 2 => pl
  | 3 => k
  | 4 => T
  | 5 => gcn (fun c => o c = 0) (w * h).toNat
  | 6 => gcn (gfz w h o) (w * h).toNat
  | _ => if gwr w h o = -1 then 0 else 1
noncomputable def gdgt (w h : Int) (o : Int → Int) (k T pl : Int) : Int64 := gdf (fun i => o (i : Int)) (gdq w h o (gdq w h o (gdf (grow w h o k T pl) (953 : Int64) 8) 0) 1) (w * h).toNat
theorem Q_dgE (I : gI P q q' w h o k b T e) (hd : axDy P K 8) (hr : ∀ i, i < 8 → mI P K i = grow w h o k T v i) : ∃ M2, dgE K P = some (gdgt w h o k T v, M2) ∧ Fr sMm P M2 := by
  obtain ⟨M1, r1, f1⟩ := Q_dplayer I.2.2.1 (p := 0) (Or.inl rfl) (gdf (grow w h o k T v) (953 : Int64) 8)
  have I1 := I.mo (sM_mm f1)
  obtain ⟨M2, r2, f2⟩ := Q_dplayer I1.2.2.1 (p := 1) (Or.inr rfl) (gdq w h o (gdf (grow w h o k T v) (953 : Int64) 8) 0)
  have I2 := I1.mo (sM_mm f2)
  refine ⟨M2, ?_, (sM_mm f1).trans (sM_mm f2)⟩
  unfold dgE
  rw [Q_drow hd _ hr, bd1_s, r1, bd2_s, r2, bd2_s, Q_dcells I2.2.2.1, bd1_s]
  rfl
theorem Q_digest (I : gI M q q' w h o k b T e) (hz : 94 ≤ mSz M) : ∃ M2, fX14_digest M = some (gdgt w h o k T (mI M 208 3), M2) ∧ gI M2 q q' w h o k b T e ∧ mSz M2 = mSz M + 1 ∧ mSl M2 = mSl M + 8 ∧ mI M2 169 9 = mI M 169 9 := by
  have I0 := I.z 0
  obtain ⟨N, eN⟩ : ∃ N, N = mUI M 203 0 0 := ⟨_, rfl⟩
  rw [← eN] at I0
  have zN : mSz N = mSz M := by rw [eN]
  obtain ⟨K, eK⟩ : ∃ K, K = 150 + mSz N := ⟨_, rfl⟩
  obtain ⟨L, eL⟩ : ∃ L, L = mAl N 32 8 8 := ⟨_, rfl⟩
  have IL : gI L q q' w h o k b T e := by rw [eL]; exact I0.al (by omega) 32 8 8
  have hd : axDy L K 8 := by
    rw [eL, eK]
    refine ⟨by omega, by show 150 + mSz N < 150 + (mSz N + 1); omega, ?_⟩
    show (if 150 + mSz N = axC + mSz N then (32, 8) else mSh N (150 + mSz N)) = (32, 8)
    exact if_pos rfl
  have k244 : 244 ≤ K := by omega
  have L3 : mI L 208 3 = mI M 208 3 := by
    rw [eL, show mI (mAl N 32 8 8) 208 3 = mI N 208 3 from if_neg (by show ¬ 208 = 150 + mSz N; omega), eN, mI_Un (by omega)]
  have L9 : mI L 169 9 = mI M 169 9 := by
    rw [eL, show mI (mAl N 32 8 8) 169 9 = mI N 169 9 from if_neg (by show ¬ 169 = 150 + mSz N; omega), eN, mI_Un (by omega)]
  obtain ⟨P, eP⟩ : ∃ P, P = mUI (mUI (mUI (mUI (mUI L K 0 w) K 1 h) K 2 (mI M 208 3)) K 3 k) K 4 T := ⟨_, rfl⟩
  have IP : gI P q q' w h o k b T e := by rw [eP]; exact ((((IL.dy k244 0 w).dy k244 1 h).dy k244 2 _).dy k244 3 k).dy k244 4 T
  have hdP : axDy P K 8 := by rw [eP]; exact hd
  have IP5 := IP.dy k244 5 (gcn (fun c => o c = 0) (w * h).toNat)
  obtain ⟨R, r6, f6⟩ := Q_frozenN IP5.2.2.1
  have IR := IP5.mo (sM_mm f6)
  have hdR : axDy R K 8 := axDy.fr (P := mUI P K 5 (gcn (fun c => o c = 0) (w * h).toNat)) hdP f6
  have IR6 := IR.dy k244 6 (gcn (gfz w h o) (w * h).toNat)
  obtain ⟨B, r7, f7⟩ := Q_over IR6.2.2.1
  have IB := IR6.mo (sV_mm f7)
  have hdB : axDy B K 8 := axDy.fr (P := mUI R K 6 (gcn (gfz w h o) (w * h).toNat)) hdR f7
  have IB7 := IB.dy k244 7 (if gwr w h o = -1 then 0 else 1)
  have kM : ∀ j, ¬ sM K j := fun j => by unfold sM; omega
  have kV : ∀ j, ¬ sV K j := fun j => by unfold sV; omega
  have row : ∀ i, i < 8 → mI (mUI B K 7 (if gwr w h o = -1 then 0 else 1)) K i = grow w h o k T (mI M 208 3) i := fun i hi => by
    have hi8 : i = 0 ∨ i = 1 ∨ i = 2 ∨ i = 3 ∨ i = 4 ∨ i = 5 ∨ i = 6 ∨ i = 7 := by omega
    have base : ∀ i, i < 5 → mI (mUI B K 7 (if gwr w h o = -1 then 0 else 1)) K i = mI P K i := fun i hi => by
      rw [mI_Un (by omega), f7.2 K i (kV i), mI_Un (by omega), f6.2 K i (kM i), mI_Un (by omega)]
    rcases hi8 with rfl | rfl | rfl | rfl | rfl | rfl | rfl | rfl
    · rw [base 0 (by omega), eP, mI_Un (by omega), mI_Un (by omega), mI_Un (by omega), mI_Un (by omega), mI_Us]; rfl
    · rw [base 1 (by omega), eP, mI_Un (by omega), mI_Un (by omega), mI_Un (by omega), mI_Us]; rfl
    · rw [base 2 (by omega), eP, mI_Un (by omega), mI_Un (by omega), mI_Us]; rfl
    · rw [base 3 (by omega), eP, mI_Un (by omega), mI_Us]; rfl
    · rw [base 4 (by omega), eP, mI_Us]; rfl
    · rw [mI_Un (by omega), f7.2 K 5 (kV 5), mI_Un (by omega), f6.2 K 5 (kM 5), mI_Us]; rfl
    · rw [mI_Un (by omega), f7.2 K 6 (kV 6), mI_Us]; rfl
    · rw [mI_Us]; rfl
  obtain ⟨M2, r8, f8⟩ := Q_dgE IB7 (K := K) (v := mI M 208 3) hdB row
  have z2 : M2.2 = L.2 := by
    rw [f8.1]
    show B.2 = L.2
    rw [f7.1]
    show R.2 = L.2
    rw [f6.1]
    show P.2 = L.2
    rw [eP]
  have a0 : mI L 208 0 = w := IL.2.2.1.2.2.1
  have a1 : mI (mUI L K 0 w) 208 1 = h := (IL.dy k244 0 w).2.2.1.2.2.2.1
  have a2 : mI (mUI (mUI L K 0 w) K 1 h) 208 3 = mI M 208 3 := by rw [mI_Un (by omega), mI_Un (by omega)]; exact L3
  have a3 : mI (mUI (mUI (mUI L K 0 w) K 1 h) K 2 (mI M 208 3)) 203 17 = k := (((IL.dy k244 0 w).dy k244 1 h).dy k244 2 (mI M 208 3)).2.2.2.2.2.2.1.2.2.1
  have a4 : mI (mUI (mUI (mUI (mUI L K 0 w) K 1 h) K 2 (mI M 208 3)) K 3 k) 203 2 = T := ((((IL.dy k244 0 w).dy k244 1 h).dy k244 2 (mI M 208 3)).dy k244 3 k).2.2.2.2.2.2.2.1.2.2.1
  refine ⟨M2, ?_, IB7.mo f8, ?_, ?_, ?_⟩
  · rw [dg_eq, ← eN, if_pos (show 94 ≤ mSz N by omega), ← eK, ← eL]
    unfold dg0
    rw [if_pos hd, a0]
    unfold dg1
    rw [if_pos (show axDy (mUI L K 0 w) K 8 from hd), a1]
    unfold dg2
    rw [if_pos (show axDy (mUI (mUI L K 0 w) K 1 h) K 8 from hd), a2]
    unfold dg3
    rw [if_pos (show axDy (mUI (mUI (mUI L K 0 w) K 1 h) K 2 (mI M 208 3)) K 8 from hd), a3]
    unfold dg4
    rw [if_pos (show axDy (mUI (mUI (mUI (mUI L K 0 w) K 1 h) K 2 (mI M 208 3)) K 3 k) K 8 from hd), a4, ← eP]
    unfold dg5
    rw [Q_free IP.2.2.1, bd1_s, if_pos hdP]
    unfold dg6
    rw [r6, bd2_s, if_pos hdR]
    unfold dg7
    rw [r7, bd2_s]
    by_cases y : gwr w h o = -1
    · rw [if_pos y] at r8 ⊢
      rw [if_pos rfl, if_pos hdB, if_pos (show axDy (mUI B K 7 0) K 8 from hdB)]
      exact r8
    · rw [if_neg y] at r8 ⊢
      rw [if_neg (by decide), if_pos hdB, if_pos (show axDy (mUI B K 7 1) K 8 from hdB)]
      exact r8
  · show M2.2.2.2.1 = mSz M + 1
    rw [z2, eL, ← zN]; rfl
  · show M2.2.2.2.2.1 = mSl M + 8
    rw [z2, eL, eN]; rfl
  · rw [mo_9 f8, mI_Un (by omega), f7.2 169 9 (by unfold sV; omega), mI_Un (by omega), f6.2 169 9 (by unfold sM; omega), mI_Un (by omega), eP, mI_Un (by omega), mI_Un (by omega), mI_Un (by omega), mI_Un (by omega), mI_Un (by omega)]
    exact L9
theorem K_digest (I : gI M q q' w h o k b T e) (hz : 94 ≤ mSz M) : gCy M (fX12_digest M) fX14_digest := by
  obtain ⟨N, r, W, f, A⟩ := C_winner I.2.1 I.2.2.2.1
  have I1 := I.cw f W
  obtain ⟨N2, r2, I2, f2⟩ := C_dplayer I1 (p := 0) (Or.inl rfl) (gdf (grow w h o k T (mI M 208 3)) (953 : Int64) 8)
  obtain ⟨N3, r3, I3, f3⟩ := C_dplayer I2 (p := 1) (Or.inr rfl) (gdq w h o (gdf (grow w h o k T (mI M 208 3)) (953 : Int64) 8) 0)
  have z3 : N3.2 = M.2 := by rw [f3.1, f2.1, f.1]
  have s3 : mSz N3 = mSz M := by show N3.2.2.2.1 = M.2.2.2.1; rw [z3]
  have l3 : mSl N3 = mSl M := by show N3.2.2.2.2.1 = M.2.2.2.2.1; rw [z3]
  have p3 : mI N3 208 3 = mI M 208 3 := by rw [f3.2 208 3 (by omega), f2.2 208 3 (by omega), f.2 208 3 (by unfold sU; omega)]
  have n9 : mI N3 169 9 = mI M 169 9 := by rw [f3.2 169 9 (by omega), f2.2 169 9 (by omega), f.2 169 9 sU9]
  obtain ⟨M2, r4, I4, z1, z2, m9⟩ := Q_digest I3 (by omega)
  rw [p3] at r4
  have a0 : fX12_columns M = w := by unfold fX12_columns fX8_columns; exact I.2.1.1.2.1
  have a1 : fX12_rows M = h := by unfold fX12_rows fX8_rows; exact I.2.1.1.2.2.1
  have a3 : fX12_stonesToTakeBack M = k := by unfold fX12_stonesToTakeBack fX8_laidStones; exact I.2.2.2.2.2.2.1.2.1
  have a4 : fX12_tapeBytes M = T := by unfold fX12_tapeBytes fX9_length; exact I.2.2.2.2.2.2.2.1.1.2.1
  have a5 : fX12_emptyCells M = gcn (fun c => o c = 0) (w * h).toNat := by unfold fX12_emptyCells; exact C_free I.2.1
  refine ⟨gdgt w h o k T (mI M 208 3), N3, M2, ?_, r4, ⟨q, q', w, h, o, k, b, T, e, I4⟩, by omega, by omega, by omega, by omega, by omega⟩
  unfold fX12_digest fX12_isOver
  rw [C_plansN I, bd1_s, C_frozenN I.2.1, bd1_s, r, bd2_s, a0, a1, a3, a4, a5]
  by_cases y : gwr w h o = -1
  · rw [if_pos y, bd2_s, if_pos rfl]
    have e8 : gdf (grow w h o k T (mI M 208 3)) (953 : Int64) 8 = (((((((((((((((((953 : Int64) * (31 : Int64)) + (il w)) * (31 : Int64)) + (il h)) * (31 : Int64)) + (il (mI M 208 3))) * (31 : Int64)) + (il k)) * (31 : Int64)) + (il T)) * (31 : Int64)) + (il (gcn (fun c => o c = 0) (w * h).toNat))) * (31 : Int64)) + (il (gcn (gfz w h o) (w * h).toNat))) * (31 : Int64)) + (il 0)) := by
      show _ + il (if gwr w h o = -1 then 0 else 1) = _
      rw [if_pos y]
      rfl
    rw [← e8, r2, bd2_s, r3, bd2_s, C_dcells I3.2.1, bd1_s]
    rfl
  · rw [if_neg y, bd2_s, if_neg (by decide)]
    have e8 : gdf (grow w h o k T (mI M 208 3)) (953 : Int64) 8 = (((((((((((((((((953 : Int64) * (31 : Int64)) + (il w)) * (31 : Int64)) + (il h)) * (31 : Int64)) + (il (mI M 208 3))) * (31 : Int64)) + (il k)) * (31 : Int64)) + (il T)) * (31 : Int64)) + (il (gcn (fun c => o c = 0) (w * h).toNat))) * (31 : Int64)) + (il (gcn (gfz w h o) (w * h).toNat))) * (31 : Int64)) + (il 1)) := by
      show _ + il (if gwr w h o = -1 then 0 else 1) = _
      rw [if_neg y]
      rfl
    rw [← e8, r2, bd2_s, r3, bd2_s, C_dcells I3.2.1, bd1_s]
    rfl
end CL8
