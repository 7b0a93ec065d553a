/-! an array of four arrays of 81 ints -/
section AXMU
variable {G : ax_G} {mt : ax_T} {d pc : Nat} {ls : List (Option ax_V)} {st : List ax_V} {M M' : ax_M} {o : Option ax_V ⊕ String}
theorem x_multi {idx : Nat} (hd : decode mt.2.1 pc = .ok (.multianewarray idx 2, 4)) (hz : mSz M = 34) (hl : Cond.classLink mt.1.cls idx "[[I" ∈ ax_W) (hover : Cond.arrayOver (.array .int) ∈ axNw) (harr : Cond.arrayClass .int ∈ ax_W) (hno : ∀ k j, gPh G k = true → axC + mSz M ≤ k → axFR k j = none)
    (k' : ax_Ex G mt d (pc + 4) ls (vR (axC + mSz M) :: st) (mMu M) o M') : ax_Ex G mt d pc ls (vI 81 :: vI 4 :: st) M o M' := by
  intro g hos hol
  have gM : ax_g (mMu M) := by
    have hk : axKk (axC + mSz M) = false := by rw [hz]; rfl
    unfold mMu
    refine ax_gR (ax_gR (ax_gR (ax_gR (ax_gA (ax_gA (ax_gA (ax_gA (ax_gA g))))) ?_) ?_) ?_) ?_ <;> (intro h; rw [hk] at h; cases h)
  have z1 : mSz (mMu M) = mSz M + 5 := rfl
  have z2 : mSl (mMu M) = mSl M + (4 + 81 + 81 + 81 + 81) := by show mSl M + 4 + 81 + 81 + 81 + 81 = _; omega
  obtain ⟨⟨k0, k00, k1, k2⟩, k3⟩ := k' gM (ax_oS_cons ax_okR (ax_oS_tl (ax_oS_tl hos))) hol
  rw [z1] at k1
  rw [z2] at k2
  refine ⟨⟨k0, k00, by omega, by omega⟩, fun p e R s m args below meth c Q n1 n2 H locs cells slots lc C KS h0 hd' hl' hc' hs' e1 e2 hR hS hL hF => ?_⟩
  have hts := C.2.2.2.2.2.2.1
  intro T hT X
  obtain ⟨vm₁, cA, comp, hW, hfA, hfC, -, -, X1, step⟩ := X.multianewarray2F C.1 (ty := .int) C.2.2.2.2.2.1 (hts _ hl) (show (Cond.arrayOver _).before args s = true from KS.2.2.2.2.2.2.2.2.2.2.2.2.1 _ hover) (hts _ harr) (g := F0 m pc lc (List.map (ax_cv G) (vI 81 :: vI 4 :: st))) rfl (by rw [C.2.1]; exact hd) (n := 4) (k := 81) (rest := st.map (ax_cv G)) rfl (by decide) (by decide) (by decide) (by decide) (by decide) rfl rfl (by show cells + (1 + 4) ≤ R.cells; omega) (by show slots + (4 + 4 * 81) ≤ R.slots; omega)
  generalize hF4 : Jvm.Free.Multi.fill (T.setVm vm₁) cA comp (4 : Int32).toNatClampNeg (81 : Int32).toNatClampNeg (defaultValue .int) (4 : Int32).toNatClampNeg = U at X1 step
  have hTh : (T.setVm vm₁).heap = H := hT
  obtain ⟨f1, f2, -⟩ := Jvm.Free.Multi.fill_facts (T.setVm vm₁) cA comp 4 81 (defaultValue .int) 4
  have f3 := fun (a : Addr) (ha : a < (T.setVm vm₁).heap.size) => Jvm.Free.Multi.fill_old (T.setVm vm₁) cA comp 4 81 (defaultValue .int) ha 4
  have f4 := Jvm.Free.Multi.fill_inner (T.setVm vm₁) cA comp 4 81 (defaultValue .int) 4
  rw [show Jvm.Free.Multi.fill (T.setVm vm₁) cA comp 4 81 (defaultValue .int) 4 = U from hF4] at f1 f2
  have f3 : ∀ a : Addr, a < H.size → U.heap[a]? = H[a]? := fun a ha => by
    have h := f3 a (by rw [hTh]; exact ha)
    rw [show Jvm.Free.Multi.fill (T.setVm vm₁) cA comp 4 81 (defaultValue .int) 4 = U from hF4, hTh] at h
    exact h
  have f4 : ∀ j, j < 4 → U.heap[H.size + 1 + j]? = some (arrV (gCA G 0) 81 (fun _ => .int 0)) := fun j hj => by
    have h := f4 j hj
    rw [show Jvm.Free.Multi.fill (T.setVm vm₁) cA comp 4 81 (defaultValue .int) 4 = U from hF4, hTh] at h
    rw [h]
    have hc : comp = gCA G 0 := Option.some.inj (hfC.symm.trans (KS.1.2 0 _ rfl).2)
    rw [← hc, ← arrV_new]
    rfl
  rw [hTh] at f1 f2
  have hcA : cA = gCA G 5 := Option.some.inj (hfA.symm.trans (KS.1.2 5 _ rfl).2)
  have f2 : U.heap[H.size]? = some (arrV (gCA G 5) 4 (fun j => if j < 4 then .ref (H.size + 1 + j) else .null)) := by
    rw [f2, hcA]
    congr 1
  have hR1 : ax_Rel G (mMu M) U.heap := by
    obtain ⟨r1, r2, r3, r4⟩ := hR
    have hsh : ∀ k, k < axB → ax_sh (mMu M) k = ax_sh M k := fun k hk => by unfold ax_sh; rw [if_pos hk, if_pos hk]
    refine ⟨by rw [f1, r1, z1]; omega, fun k hk => ⟨(r2 k hk).1, by have := (r2 k hk).2; rw [z1]; omega⟩, fun k hc hk => ?_, fun k hk j r hr => ?_⟩
    · rw [z1] at hk
      have hb : k < axB := by show k < 244; have : k < 150 + (mSz M + 5) := hk; omega
      by_cases hold : k < axC + mSz M
      · have hat := r3 k hc hold
        have ha : ax_ad G k < H.size := by rw [ax_adC hc, r1]; omega
        have hsv : ∀ t i, ax_sv G (mMu M) t k i = ax_sv G M t k i := by
          intro t i
          have n0 : k ≠ axC + mSz M := by omega
          unfold mMu
          rw [ax_svR n0, ax_svR n0, ax_svR n0, ax_svR n0]
          rw [ax_svO (by show k ≠ axC + (mSz M + 4); omega), ax_svO (by show k ≠ axC + (mSz M + 3); omega), ax_svO (by show k ≠ axC + (mSz M + 2); omega), ax_svO (by show k ≠ axC + (mSz M + 1); omega), ax_svO n0]
        unfold ax_At at hat ⊢
        rw [hsh k hb]
        by_cases ht : (ax_sh M k).1 < 32
        · rw [if_pos ht] at hat ⊢
          exact (hat.kept (f3 _ ha)).to (fun i _ => (hsv _ i).symm)
        · rw [if_neg ht] at hat ⊢
          rw [f3 _ ha, hat]
          exact congrArg (fun f => some (arrV _ _ f)) (funext fun i => (hsv _ i).symm)
      · have hk5 : k = 184 ∨ k = 185 ∨ k = 186 ∨ k = 187 ∨ k = 188 := by
          have h1 : ¬ k < 150 + mSz M := hold
          have h2 : k < 150 + (mSz M + 5) := hk
          omega
        have had : ∀ j, ax_ad G (184 + j) = H.size + j := fun j => by
          rw [ax_adC (by show 150 ≤ 184 + j; omega), r1, hz]
          show gSz G + (184 + j - 150) = gSz G + 34 + j
          omega
        have inner : ∀ j, j < 4 → ax_At G (mMu M) U.heap (185 + j) := fun j hj => by
          have hs : ax_sh (mMu M) (185 + j) = (0 + 32, 81) := by
            rcases (show j = 0 ∨ j = 1 ∨ j = 2 ∨ j = 3 by omega) with rfl | rfl | rfl | rfl <;> rfl
          refine ax_atArr hs ?_
          rw [show 185 + j = 184 + (1 + j) by omega, had, show H.size + (1 + j) = H.size + 1 + j by omega, f4 j hj]
          refine congrArg (fun f => some (arrV _ _ f)) (funext fun i => ?_)
          rw [ax_sv0 rfl]
          have hv : mI (mMu M) (184 + (1 + j)) i = 0 := by
            rcases (show j = 0 ∨ j = 1 ∨ j = 2 ∨ j = 3 by omega) with rfl | rfl | rfl | rfl <;> simp [mMu, mI, mUR, mAl, mSz, axC, show M.2.2.2.1 = 34 from hz]
          rw [hv]
          rfl
        rcases hk5 with rfl | rfl | rfl | rfl | rfl
        · refine ax_atArr (t := 5) (n := 4) rfl ?_
          have := had 0
          rw [Nat.add_zero, Nat.add_zero] at this
          rw [this, f2]
          refine congrArg some ?_
          unfold arrV
          congr 1
          refine congrArg Array.ofFn (funext fun j => ?_)
          obtain ⟨j, hj⟩ := j
          show (if j < 4 then Value.ref (H.size + 1 + j) else Value.null) = ax_rv G (mR (mMu M) 184 j)
          have hv : mR (mMu M) 184 j = some (184 + (1 + j)) := by
            rcases (show j = 0 ∨ j = 1 ∨ j = 2 ∨ j = 3 by omega) with rfl | rfl | rfl | rfl <;> simp [mMu, mR, mUR, ax_up, mAl, mSz, axC, show M.2.2.2.1 = 34 from hz]
          rw [if_pos hj, hv]
          show _ = Value.ref (ax_ad G (184 + (1 + j)))
          rw [had, Nat.add_assoc]
        · exact inner 0 (by omega)
        · exact inner 1 (by omega)
        · exact inner 2 (by omega)
        · exact inner 3 (by omega)
    · have hk2 := (r2 k hk).2
      have n0 : k ≠ axC + mSz M := by omega
      have e9 : mR (mMu M) k j = mR M k j := by
        have n1 : k ≠ axC + (mSz M + 1) := by omega
        have n2 : k ≠ axC + (mSz M + 2) := by omega
        have n3 : k ≠ axC + (mSz M + 3) := by omega
        have n4 : k ≠ axC + (mSz M + 4) := by omega
        unfold mMu
        simp only [mUR, mR, ax_up, mAl, mSz]
        simp only [mSz] at n0 n1 n2 n3 n4
        simp [n0, n1, n2, n3, n4, Nat.add_assoc]
      rw [e9]
      exact r4 k hk j r hr
  obtain ⟨t, a1, b1⟩ := k3 p e R s m args below meth c Q n1 n2 U.heap locs (cells + 1 + 4) (slots + 4 + 4 * 81) lc C KS h0 hd' hl' hc' hs' (by rw [z1]; omega) (by rw [z2]; omega) hR1 ⟨Nat.le_trans hS.1 (by rw [f1]; omega), fun x h1 h2 => (f3 x (Nat.lt_of_lt_of_le h1 hS.1)).trans (hS.2.1 x h1 h2), hS.2.2⟩ hL hF U rfl X1
  refine ⟨t, step t ?_, b1⟩
  rw [hT]
  have e9 := ax_cvN (G := G) hR
  rw [List.map_cons, e9] at a1
  exact a1
end AXMU
theorem ax_mul : ax_Mul := by
  intro G mt d pc ls st M M' o idx hd hz hl hover harr hno k'
  have e : axC + mSz M = 184 := by show 150 + mSz M = 184; omega
  exact x_multi hd hz hl hover harr (fun k j h => by rw [hno k] at h; cases h) (by rw [e]; exact k')
theorem i_vc : Claimed_1_1 ∧ Claimed_1_2 := ⟨lq_limb ax_mul limb_1_1 (fun args s t => by simp [limb_1_1, Cond.after, Cond.holds, Cond.value]), lq_limb ax_mul limb_1_2 (fun args s t => Cond.after_iff.mpr (by
  first | (rw [show limb_1_2 = Cond.eq .result (.int 1) from rfl, Cond.eq_ints (x := 1) (y := 1) rfl rfl]; simp; done) | (simp [limb_1_2, Cond.value, Term.eval]; done)))⟩
