/-! rows: fields, arrays, statics, constants -/
section AXH
variable {G : ax_G} {mt : ax_T} {d pc : Nat} {ls : List (Option ax_V)} {st : List ax_V} {M M' M1 : ax_M} {o : Option ax_V ⊕ String}
theorem x_getI {idx k t j n : Nat} (hd : decode mt.2.1 pc = .ok (.getfield idx, 3)) (hk : ax_ex G M k) (hs : ax_sh M k = (t, n)) (ht : t < 13) (hj : j < axN t) (hkd : ax_kd t j = 0) (hl : Cond.fieldLink mt.1.cls idx (axT t j).1 (axT t j).2.1 (axT t j).2.2.1 ∈ ax_W)
    (k' : ax_Ex G mt d (pc + 3) ls (vI (mI M k j) :: st) M o M') : ax_Ex G mt d pc ls (vR k :: st) M o M' :=
  ax_pure (fun hs hl hI => ⟨ax_oS_cons (ax_okI (hI k j)) (ax_oS_tl hs), hl⟩) (fun C KS hR _ hL _ _ _ k2 => axw_get C KS (hR.got hk).2.2 hs ht hj hl hd (by rw [ax_sv0 hkd]; exact k2 _ hL)) k'
theorem x_getR {idx k t j n : Nat} (hd : decode mt.2.1 pc = .ok (.getfield idx, 3)) (hk : ax_ex G M k) (hs : ax_sh M k = (t, n)) (ht : t < 13) (hj : j < axN t) (hkd : ax_kd t j = 1) (hl : Cond.fieldLink mt.1.cls idx (axT t j).1 (axT t j).2.1 (axT t j).2.2.1 ∈ ax_W)
    (k' : ax_Ex G mt d (pc + 3) ls (vQ (mR M k j) :: st) M o M') : ax_Ex G mt d pc ls (vR k :: st) M o M' :=
  ax_pure (fun hs hl hI => ⟨ax_oS_cons ax_okR (ax_oS_tl hs), hl⟩) (fun C KS hR _ hL _ _ _ k2 => axw_get C KS (hR.got hk).2.2 hs ht hj hl hd (by rw [ax_sv1 hkd]; exact k2 _ hL)) k'
theorem x_getF {idx k t j n r : Nat} (hd : decode mt.2.1 pc = .ok (.getfield idx, 3)) (hG : gPh G k = true) (hk : ax_ex G M k) (hs : ax_sh M k = (t, n)) (ht : t < 13) (hj : j < axN t) (hkd : ax_kd t j = 1) (hv : axFR k j = some r) (hl : Cond.fieldLink mt.1.cls idx (axT t j).1 (axT t j).2.1 (axT t j).2.2.1 ∈ ax_W)
    (k' : ax_Ex G mt d (pc + 3) ls (vR r :: st) M o M') : ax_Ex G mt d pc ls (vR k :: st) M o M' :=
  ax_pure (fun hs hl hI => ⟨ax_oS_cons ax_okR (ax_oS_tl hs), hl⟩) (fun C KS hR _ hL _ _ _ k2 => axw_get C KS (hR.got hk).2.2 hs ht hj hl hd (by rw [ax_sv1 hkd, hR.2.2.2 k hG j r hv]; exact k2 _ hL)) k'
theorem x_getIN {idx k t j n : Nat} {host : String} (hd : decode mt.2.1 pc = .ok (.getfield idx, 3)) (hk : ax_ex G M k) (hs : ax_sh M k = (t, n)) (ht : t < 13) (hj : j < axN t) (hkd : ax_kd t j = 0) (hl : Cond.fieldLinkNest mt.1.cls idx (axT t j).1 (axT t j).2.1 (axT t j).2.2.1 host ∈ axNw)
    (k' : ax_Ex G mt d (pc + 3) ls (vI (mI M k j) :: st) M o M') : ax_Ex G mt d pc ls (vR k :: st) M o M' :=
  ax_pure (fun hs hl hI => ⟨ax_oS_cons (ax_okI (hI k j)) (ax_oS_tl hs), hl⟩) (fun C KS hR _ hL _ _ _ k2 => axw_getN C KS (hR.got hk).2.2 hs ht hj hl hd (by rw [ax_sv0 hkd]; exact k2 _ hL)) k'
theorem x_getFN {idx k t j n r : Nat} {host : String} (hd : decode mt.2.1 pc = .ok (.getfield idx, 3)) (hG : gPh G k = true) (hk : ax_ex G M k) (hs : ax_sh M k = (t, n)) (ht : t < 13) (hj : j < axN t) (hkd : ax_kd t j = 1) (hv : axFR k j = some r) (hl : Cond.fieldLinkNest mt.1.cls idx (axT t j).1 (axT t j).2.1 (axT t j).2.2.1 host ∈ axNw)
    (k' : ax_Ex G mt d (pc + 3) ls (vR r :: st) M o M') : ax_Ex G mt d pc ls (vR k :: st) M o M' :=
  ax_pure (fun hs hl hI => ⟨ax_oS_cons ax_okR (ax_oS_tl hs), hl⟩) (fun C KS hR _ hL _ _ _ k2 => axw_getN C KS (hR.got hk).2.2 hs ht hj hl hd (by rw [ax_sv1 hkd, hR.2.2.2 k hG j r hv]; exact k2 _ hL)) k'
theorem ax_frI {k j : Nat} {v : Int} {H : Heap} (hR : ax_Rel G M H) : ∀ k', gPh G k' = true → ∀ j' r, axFR k' j' = some r → mR (mUI M k j v) k' j' = some r := hR.2.2.2
theorem ax_frR {k j : Nat} {v : Option Nat} {H : Heap} (hR : ax_Rel G M H) (hv : gPh G k = true → axFR k j = none ∨ axFR k j = v) : ∀ k', gPh G k' = true → ∀ j' r, axFR k' j' = some r → mR (mUR M k j v) k' j' = some r := by
  intro k' hG j' r hr
  simp only [mR, mUR, ax_up]
  by_cases e : k' = k ∧ j' = j
  · rw [if_pos e]
    obtain ⟨rfl, rfl⟩ := e
    rcases hv hG with h | h
    · rw [h] at hr; cases hr
    · rw [← h]; exact hr
  · rw [if_neg e]
    exact hR.2.2.2 k' hG j' r hr
theorem ax_gI {k j : Nat} {v : Int} (h : ax_g M) (hv : ax_in v) : ax_g (mUI M k j v) := by
  refine ⟨fun k' j' => ?_, h.2⟩
  simp only [mI, mUI, ax_up]
  by_cases e : k' = k ∧ j' = j
  · rw [if_pos e]; exact hv
  · rw [if_neg e]; exact h.1 k' j'
theorem ax_gR {k j : Nat} {v : Option Nat} (h : ax_g M) (hv : axKk k = true → ∀ a, v = some a → 10 ≤ a ∧ a < 52) : ax_g (mUR M k j v) := by
  refine ⟨h.1, fun k' hk j' a => ?_⟩
  simp only [mR, mUR, ax_up]
  by_cases e : k' = k ∧ j' = j
  · rw [if_pos e]
    obtain ⟨rfl, rfl⟩ := e
    exact hv hk a
  · rw [if_neg e]; exact h.2 k' hk j' a
theorem ax_gJ {k j : Nat} {v : Int64} (h : ax_g M) : ax_g (mUJ M k j v) := h
/-- an int that may lie in a field or an array of ints -/
theorem x_putI {idx k t j n : Nat} {v : Int} (hd : decode mt.2.1 pc = .ok (.putfield idx, 3)) (hk : ax_ex G M k) (hs : ax_sh M k = (t, n)) (ht : t < 13) (hj : j < axN t) (hkd : ax_tf t j = .int) (hfin : (axT t j).2.2.2 = false) (hl : Cond.fieldLink mt.1.cls idx (axT t j).1 (axT t j).2.1 (axT t j).2.2.1 ∈ ax_W)
    (k' : ax_Ex G mt d (pc + 3) ls st (mUI M k j v) o M') : ax_Ex G mt d pc ls (vI v :: vR k :: st) M o M' :=
  ax_mem (M1 := (mUI M k j v)) rfl rfl (fun hs => ax_oS_tl (ax_oS_tl hs)) (fun g hs => ax_gI g (ax_oS_hd hs)) (fun C KS hR hS hos _ k2 => axw_put (M1 := (mUI M k j v)) C KS hR hS hk hs ht hj hfin hl (by rw [hkd]; rfl) (by rw [hkd]; rfl) hd rfl rfl (ax_svIs (by unfold ax_kd; rw [if_pos (by omega), hkd]; rfl)) (fun k1 h1 t1 i1 => ax_svI h1) (ax_frI hR) k2) k'
theorem x_putZ {idx k t j n : Nat} {v : Int} (hd : decode mt.2.1 pc = .ok (.putfield idx, 3)) (hk : ax_ex G M k) (hs : ax_sh M k = (t, n)) (ht : t < 13) (hj : j < axN t) (hkd : ax_tf t j = .boolean) (hfin : (axT t j).2.2.2 = false) (hl : Cond.fieldLink mt.1.cls idx (axT t j).1 (axT t j).2.1 (axT t j).2.2.1 ∈ ax_W) (hv : v = 0 ∨ v = 1)
    (k' : ax_Ex G mt d (pc + 3) ls st (mUI M k j v) o M') : ax_Ex G mt d pc ls (vI v :: vR k :: st) M o M' :=
  ax_mem (M1 := (mUI M k j v)) rfl rfl (fun hs => ax_oS_tl (ax_oS_tl hs)) (fun g hs => ax_gI g (ax_oS_hd hs)) (fun C KS hR hS hos _ k2 => axw_put (M1 := (mUI M k j v)) C KS hR hS hk hs ht hj hfin hl (by rw [hkd]; rcases hv with rfl | rfl <;> rfl) (by rw [hkd]; rcases hv with rfl | rfl <;> rfl) hd rfl rfl (ax_svIs (by unfold ax_kd; rw [if_pos (by omega), hkd]; rfl)) (fun k1 h1 t1 i1 => ax_svI h1) (ax_frI hR) k2) k'
theorem x_putIN {idx k t j n : Nat} {v : Int} {host : String} (hd : decode mt.2.1 pc = .ok (.putfield idx, 3)) (hk : ax_ex G M k) (hs : ax_sh M k = (t, n)) (ht : t < 13) (hj : j < axN t) (hkd : ax_tf t j = .int) (hfin : (axT t j).2.2.2 = false) (hl : Cond.fieldLinkNest mt.1.cls idx (axT t j).1 (axT t j).2.1 (axT t j).2.2.1 host ∈ axNw)
    (k' : ax_Ex G mt d (pc + 3) ls st (mUI M k j v) o M') : ax_Ex G mt d pc ls (vI v :: vR k :: st) M o M' :=
  ax_mem (M1 := (mUI M k j v)) rfl rfl (fun hs => ax_oS_tl (ax_oS_tl hs)) (fun g hs => ax_gI g (ax_oS_hd hs)) (fun C KS hR hS hos _ k2 => axw_putN (M1 := (mUI M k j v)) C KS hR hS hk hs ht hj hfin hl (by rw [hkd]; rfl) (by rw [hkd]; rfl) hd rfl rfl (ax_svIs (by unfold ax_kd; rw [if_pos (by omega), hkd]; rfl)) (fun k1 h1 t1 i1 => ax_svI h1) (ax_frI hR) k2) k'
theorem x_putR {idx k t j n a : Nat} (hd : decode mt.2.1 pc = .ok (.putfield idx, 3)) (hk : ax_ex G M k) (hs : ax_sh M k = (t, n)) (ht : t < 13) (hj : j < axN t) (hkd : ax_kd t j = 1) (hty : ∃ c, ax_tf t j = .object c) (hfin : (axT t j).2.2.2 = false) (hl : Cond.fieldLink mt.1.cls idx (axT t j).1 (axT t j).2.1 (axT t j).2.2.1 ∈ ax_W) (hv : gPh G k = true → axFR k j = none ∨ axFR k j = some a) (hK : axKk k = false := by rfl)
    (k' : ax_Ex G mt d (pc + 3) ls st (mUR M k j (some a)) o M') : ax_Ex G mt d pc ls (vR a :: vR k :: st) M o M' :=
  ax_mem (M1 := (mUR M k j (some a))) rfl rfl (fun hs => ax_oS_tl (ax_oS_tl hs)) (fun g hs => ax_gR g (fun h => by rw [hK] at h; cases h)) (fun C KS hR hS hos _ k2 => by
    obtain ⟨c0, hc0⟩ := hty
    exact axw_put (M1 := (mUR M k j (some a))) C KS hR hS hk hs ht hj hfin hl (by rw [hc0]; rfl) (by rw [hc0]; rfl) hd rfl rfl (ax_svRs hkd) (fun k1 h1 t1 i1 => ax_svR h1) (ax_frR hR hv) k2) k'
/-- a final field in a constructor -/
theorem x_putRF {idx k t j n a : Nat} (hd : decode mt.2.1 pc = .ok (.putfield idx, 3)) (hk : ax_ex G M k) (hs : ax_sh M k = (t, n)) (ht : t < 13) (hj : j < axN t) (hkd : ax_kd t j = 1) (hty : (∃ c, ax_tf t j = .object c) ∨ ∃ c, ax_tf t j = .array c) (hfin : (axT t j).2.2.2 = true) (hini : mt.1.name = "<init>") (hdecl : (axT t j).1 = mt.1.cls) (hl : Cond.fieldLink mt.1.cls idx (axT t j).1 (axT t j).2.1 (axT t j).2.2.1 ∈ ax_W) (hv : gPh G k = false) (hK : axKk k = false := by rfl)
    (k' : ax_Ex G mt d (pc + 3) ls st (mUR M k j (some a)) o M') : ax_Ex G mt d pc ls (vR a :: vR k :: st) M o M' :=
  ax_mem (M1 := (mUR M k j (some a))) rfl rfl (fun hs => ax_oS_tl (ax_oS_tl hs)) (fun g hs => ax_gR g (fun h => by rw [hK] at h; cases h)) (fun C KS hR hS hos _ k2 => by
    have hn : narrow (ax_tf t j) (ax_cv G (vR a)) = ax_cv G (vR a) := by rcases hty with ⟨c0, hc0⟩ | ⟨c0, hc0⟩ <;> rw [hc0] <;> rfl
    have hf : fits (ax_tf t j) (ax_cv G (vR a)) = true := by rcases hty with ⟨c0, hc0⟩ | ⟨c0, hc0⟩ <;> rw [hc0] <;> rfl
    exact axw_putF (M1 := (mUR M k j (some a))) C KS hR hS hk hs ht hj hfin hini hdecl hl hn hf hd rfl rfl (ax_svRs hkd) (fun k1 h1 t1 i1 => ax_svR h1) (ax_frR hR (fun q => by rw [hv] at q; cases q)) k2) k'
theorem ax_ix {i : Int} {j n : Nat} (hi : ax_in i) (hij : i = (j : Int)) (hj : j < n) : ¬ (Int32.ofInt i < 0 ∨ n ≤ (Int32.ofInt i).toNatClampNeg) ∧ (Int32.ofInt i).toNatClampNeg = j := by
  have h1 : (Int32.ofInt i).toNatClampNeg = j := by
    show (Int32.ofInt i).toInt.toNat = j
    rw [ax_toInt hi, hij]
    rfl
  refine ⟨?_, h1⟩
  rintro (h | h)
  · have h2 := (ax_ltI hi ax_in0).mp h
    omega
  · omega
theorem x_iald {k j n : Nat} {i : Int} (hd : decode mt.2.1 pc = .ok (.iaload, 1)) (hk : ax_ex G M k) (hs : ax_sh M k = (32, n)) (hij : i = (j : Int)) (hj : j < n)
    (k' : ax_Ex G mt d (pc + 1) ls (vI (mI M k j) :: st) M o M') : ax_Ex G mt d pc ls (vI i :: vR k :: st) M o M' :=
  ax_pure (fun hs hl hI => ⟨ax_oS_cons (ax_okI (hI k j)) (ax_oS_tl (ax_oS_tl hs)), hl⟩) (fun C KS hR _ hL hos _ _ k2 => by
    obtain ⟨h1, h2⟩ := ax_ix (ax_oS_hd hos) hij hj
    exact W.iald (v := .int (Int32.ofInt (mI M k j))) C.1 C.2.1 (ax_arrAt (t := 0) (hR.got hk).2.2 hs) ((KS.1.2 0 _ rfl).1 n _) (fun q => by cases q) (by rw [arrV_size]; exact h1) (by rw [h2, arrV_read _ _ hj]; rfl) rfl rfl hd (k2 _ hL)) k'
theorem x_bald {k j n : Nat} {i : Int} (hd : decode mt.2.1 pc = .ok (.baload, 1)) (hk : ax_ex G M k) (hs : ax_sh M k = (33, n)) (hij : i = (j : Int)) (hj : j < n)
    (k' : ax_Ex G mt d (pc + 1) ls (vI (mI M k j) :: st) M o M') : ax_Ex G mt d pc ls (vI i :: vR k :: st) M o M' :=
  ax_pure (fun hs hl hI => ⟨ax_oS_cons (ax_okI (hI k j)) (ax_oS_tl (ax_oS_tl hs)), hl⟩) (fun C KS hR _ hL hos _ _ k2 => by
    obtain ⟨h1, h2⟩ := ax_ix (ax_oS_hd hos) hij hj
    exact W.bald (v := .int (Int32.ofInt (mI M k j))) C.1 C.2.1 (ax_arrAt (t := 1) (hR.got hk).2.2 hs) ((KS.1.2 1 _ rfl).1 n _) (fun q => by cases q) (by rw [arrV_size]; exact h1) (by rw [h2, arrV_read _ _ hj]; rfl) rfl rfl hd (k2 _ hL)) k'
theorem x_zald {k j n : Nat} {i : Int} (hd : decode mt.2.1 pc = .ok (.baload, 1)) (hk : ax_ex G M k) (hs : ax_sh M k = (34, n)) (hij : i = (j : Int)) (hj : j < n)
    (k' : ax_Ex G mt d (pc + 1) ls (vI (mI M k j) :: st) M o M') : ax_Ex G mt d pc ls (vI i :: vR k :: st) M o M' :=
  ax_pure (fun hs hl hI => ⟨ax_oS_cons (ax_okI (hI k j)) (ax_oS_tl (ax_oS_tl hs)), hl⟩) (fun C KS hR _ hL hos _ _ k2 => by
    obtain ⟨h1, h2⟩ := ax_ix (ax_oS_hd hos) hij hj
    exact W.zald (v := .int (Int32.ofInt (mI M k j))) C.1 C.2.1 (ax_arrAt (t := 2) (hR.got hk).2.2 hs) ((KS.1.2 2 _ rfl).1 n _) (fun q => by cases q) (by rw [arrV_size]; exact h1) (by rw [h2, arrV_read _ _ hj]; rfl) rfl rfl hd (k2 _ hL)) k'
theorem x_lald {k j n : Nat} {i : Int} (hd : decode mt.2.1 pc = .ok (.laload, 1)) (hk : ax_ex G M k) (hs : ax_sh M k = (35, n)) (hij : i = (j : Int)) (hj : j < n)
    (k' : ax_Ex G mt d (pc + 1) ls (vL (mJ M k j) :: st) M o M') : ax_Ex G mt d pc ls (vI i :: vR k :: st) M o M' :=
  ax_pure (fun hs hl hI => ⟨ax_oS_cons ax_okL (ax_oS_tl (ax_oS_tl hs)), hl⟩) (fun C KS hR _ hL hos _ _ k2 => by
    obtain ⟨h1, h2⟩ := ax_ix (ax_oS_hd hos) hij hj
    exact W.lald (v := .long (mJ M k j)) C.1 C.2.1 (ax_arrAt (t := 3) (hR.got hk).2.2 hs) ((KS.1.2 3 _ rfl).1 n _) (fun q => by cases q) (by rw [arrV_size]; exact h1) (by rw [h2, arrV_read _ _ hj]; rfl) rfl rfl hd (k2 _ hL)) k'
theorem x_aaldK {k j n : Nat} {i : Int} (hd : decode mt.2.1 pc = .ok (.aaload, 1)) (hk : ax_ex G M k) (hs : ax_sh M k = (36, n)) (hij : i = (j : Int)) (hj : j < n)
    (k' : ax_Ex G mt d (pc + 1) ls (vQ (mR M k j) :: st) M o M') : ax_Ex G mt d pc ls (vI i :: vR k :: st) M o M' :=
  ax_pure (fun hs hl hI => ⟨ax_oS_cons ax_okR (ax_oS_tl (ax_oS_tl hs)), hl⟩) (fun C KS hR _ hL hos _ _ k2 => by
    obtain ⟨h1, h2⟩ := ax_ix (ax_oS_hd hos) hij hj
    exact W.aald (v := ax_rv G (mR M k j)) C.1 C.2.1 (ax_arrAt (t := 4) (hR.got hk).2.2 hs) ((KS.1.2 4 _ rfl).1 n _) rfl (fun q => by cases q) (by rw [arrV_size]; exact h1) (by rw [h2, arrV_read _ _ hj]; rfl) rfl rfl hd (k2 _ hL)) k'
theorem x_aaldA {k j n r : Nat} {i : Int} (hd : decode mt.2.1 pc = .ok (.aaload, 1)) (hG : gPh G k = true) (hk : ax_ex G M k) (hs : ax_sh M k = (37, n)) (hij : i = (j : Int)) (hj : j < n) (hv : axFR k j = some r)
    (k' : ax_Ex G mt d (pc + 1) ls (vR r :: st) M o M') : ax_Ex G mt d pc ls (vI i :: vR k :: st) M o M' :=
  ax_pure (fun hs hl hI => ⟨ax_oS_cons ax_okR (ax_oS_tl (ax_oS_tl hs)), hl⟩) (fun C KS hR _ hL hos _ _ k2 => by
    obtain ⟨h1, h2⟩ := ax_ix (ax_oS_hd hos) hij hj
    exact W.aald (v := ax_rv G (some r)) C.1 C.2.1 (ax_arrAt (t := 5) (hR.got hk).2.2 hs) ((KS.1.2 5 _ rfl).1 n _) rfl (fun q => by cases q) (by rw [arrV_size]; exact h1) (by rw [h2, arrV_read _ _ hj, ← hR.2.2.2 k hG j r hv]; rfl) rfl rfl hd (k2 _ hL)) k'
theorem x_alen {k t n : Nat} (hd : decode mt.2.1 pc = .ok (.arraylength, 1)) (hk : ax_ex G M k) (hs : ax_sh M k = (t + 32, n)) (ht : t < 6) (hn : n < 2147483648)
    (k' : ax_Ex G mt d (pc + 1) ls (vI (n : Int) :: st) M o M') : ax_Ex G mt d pc ls (vR k :: st) M o M' :=
  ax_pure (fun hs hl hI => ⟨ax_oS_cons (ax_okI ⟨by omega, by omega⟩) (ax_oS_tl hs), hl⟩) (fun C KS hR _ hL hos _ _ k2 => by
    obtain ⟨q, hq, hq2⟩ : ∃ q : ClassId × FieldType, (ax_tys G)[t]? = some q ∧ q.1 = gCA G t := by
      rcases (show t = 0 ∨ t = 1 ∨ t = 2 ∨ t = 3 ∨ t = 4 ∨ t = 5 by omega) with rfl | rfl | rfl | rfl | rfl | rfl <;> exact ⟨_, rfl, rfl⟩
    have h3 := (KS.1.2 t q hq).1 n (ax_sv G M (t + 32) k)
    rw [hq2] at h3
    exact W.alen (n := Int32.ofInt (n : Int)) C.1 C.2.1 (ax_arrAt (hR.got hk).2.2 hs) h3 (by rw [arrV_size]; rfl) rfl rfl hd (k2 _ hL)) k'
theorem ax_shU {k j : Nat} {v : Int} : ax_sh (mUI M k j v) = ax_sh M := rfl
theorem x_iast {k j n : Nat} {i v : Int} (hd : decode mt.2.1 pc = .ok (.iastore, 1)) (hk : ax_ex G M k) (hs : ax_sh M k = (32, n)) (hij : i = (j : Int)) (hj : j < n)
    (k' : ax_Ex G mt d (pc + 1) ls st (mUI M k j v) o M') : ax_Ex G mt d pc ls (vI v :: vI i :: vR k :: st) M o M' :=
  ax_mem (M1 := (mUI M k j v)) rfl rfl (fun hs => ax_oS_tl (ax_oS_tl (ax_oS_tl hs))) (fun g hs => ax_gI g (ax_oS_hd hs)) (fun C KS hR hS hos _ k2 => by
    obtain ⟨h1, h2⟩ := ax_ix (ax_oS_hd (ax_oS_tl hos)) hij hj
    obtain ⟨hk1, -, hat⟩ := hR.got hk
    refine W.iast C.1 C.2.1 (ax_arrAt (t := 0) hat hs) ((KS.1.2 0 _ rfl).1 n _) (fun q => by cases q) (by rw [arrV_size]; exact h1) rfl rfl hd fun H1 e z oq => ?_
    rw [h2, arrV_store] at e
    exact k2 H1 _ (hR.set (M1 := (mUI M k j v)) hk1 (ax_atArr (t := 0) (n := n) hs (by rw [ax_svIs rfl]; exact e)) z oq rfl rfl (fun k1 q1 t1 i1 => ax_svI q1) (ax_frI hR)) (hS.put z oq (ax_adA hk1))) k'
theorem x_zast {k j n : Nat} {i v : Int} (hd : decode mt.2.1 pc = .ok (.bastore, 1)) (hk : ax_ex G M k) (hs : ax_sh M k = (34, n)) (hij : i = (j : Int)) (hj : j < n) (hv : v = 0 ∨ v = 1)
    (k' : ax_Ex G mt d (pc + 1) ls st (mUI M k j v) o M') : ax_Ex G mt d pc ls (vI v :: vI i :: vR k :: st) M o M' :=
  ax_mem (M1 := (mUI M k j v)) rfl rfl (fun hs => ax_oS_tl (ax_oS_tl (ax_oS_tl hs))) (fun g hs => ax_gI g (ax_oS_hd hs)) (fun C KS hR hS hos _ k2 => by
    obtain ⟨h1, h2⟩ := ax_ix (ax_oS_hd (ax_oS_tl hos)) hij hj
    obtain ⟨hk1, -, hat⟩ := hR.got hk
    refine W.zast C.1 C.2.1 (ax_arrAt (t := 2) hat hs) ((KS.1.2 2 _ rfl).1 n _) (fun q => by cases q) (by rw [arrV_size]; exact h1) rfl rfl hd fun H1 e z oq => ?_
    have hn : narrow .boolean (.int (Int32.ofInt v)) = .int (Int32.ofInt v) := by rcases hv with rfl | rfl <;> rfl
    rw [h2, hn, arrV_store] at e
    exact k2 H1 _ (hR.set (M1 := (mUI M k j v)) hk1 (ax_atArr (t := 2) (n := n) hs (by rw [ax_svIs rfl]; exact e)) z oq rfl rfl (fun k1 q1 t1 i1 => ax_svI q1) (ax_frI hR)) (hS.put z oq (ax_adA hk1))) k'
theorem ax_narB {v : Int} (hv : -128 ≤ v ∧ v < 128) : narrow .byte (.int (Int32.ofInt v)) = .int (Int32.ofInt v) := by
  have h : ∀ n : Fin 256, narrow .byte (.int (Int32.ofInt ((n : Nat) - 128 : Int))) = .int (Int32.ofInt ((n : Nat) - 128 : Int)) := by decide +kernel
  have e := h ⟨(v + 128).toNat, by omega⟩
  have e2 : (((v + 128).toNat : Nat) : Int) - 128 = v := by omega
  simp only at e
  rw [e2] at e
  exact e
theorem x_bast {k j n : Nat} {i v : Int} (hd : decode mt.2.1 pc = .ok (.bastore, 1)) (hk : ax_ex G M k) (hs : ax_sh M k = (33, n)) (hij : i = (j : Int)) (hj : j < n) (hv : -128 ≤ v ∧ v < 128)
    (k' : ax_Ex G mt d (pc + 1) ls st (mUI M k j v) o M') : ax_Ex G mt d pc ls (vI v :: vI i :: vR k :: st) M o M' :=
  ax_mem (M1 := (mUI M k j v)) rfl rfl (fun hs => ax_oS_tl (ax_oS_tl (ax_oS_tl hs))) (fun g hs => ax_gI g (ax_oS_hd hs)) (fun C KS hR hS hos _ k2 => by
    obtain ⟨h1, h2⟩ := ax_ix (ax_oS_hd (ax_oS_tl hos)) hij hj
    obtain ⟨hk1, -, hat⟩ := hR.got hk
    refine W.bast C.1 C.2.1 (ax_arrAt (t := 1) hat hs) ((KS.1.2 1 _ rfl).1 n _) (fun q => by cases q) (by rw [arrV_size]; exact h1) rfl rfl hd fun H1 e z oq => ?_
    rw [h2, ax_narB hv, arrV_store] at e
    exact k2 H1 _ (hR.set (M1 := (mUI M k j v)) hk1 (ax_atArr (t := 1) (n := n) hs (by rw [ax_svIs rfl]; exact e)) z oq rfl rfl (fun k1 q1 t1 i1 => ax_svI q1) (ax_frI hR)) (hS.put z oq (ax_adA hk1))) k'
theorem x_last {k j n : Nat} {i : Int} {v : Int64} (hd : decode mt.2.1 pc = .ok (.lastore, 1)) (hk : ax_ex G M k) (hs : ax_sh M k = (35, n)) (hij : i = (j : Int)) (hj : j < n)
    (k' : ax_Ex G mt d (pc + 1) ls st (mUJ M k j v) o M') : ax_Ex G mt d pc ls (vL v :: vI i :: vR k :: st) M o M' :=
  ax_mem (M1 := (mUJ M k j v)) rfl rfl (fun hs => ax_oS_tl (ax_oS_tl (ax_oS_tl hs))) (fun g hs => ax_gJ g) (fun C KS hR hS hos _ k2 => by
    obtain ⟨h1, h2⟩ := ax_ix (ax_oS_hd (ax_oS_tl hos)) hij hj
    obtain ⟨hk1, -, hat⟩ := hR.got hk
    refine W.last C.1 C.2.1 (ax_arrAt (t := 3) hat hs) ((KS.1.2 3 _ rfl).1 n _) (fun q => by cases q) (by rw [arrV_size]; exact h1) rfl rfl hd fun H1 e z oq => ?_
    rw [h2, arrV_store] at e
    exact k2 H1 _ (hR.set (M1 := (mUJ M k j v)) hk1 (ax_atArr (t := 3) (n := n) hs (by rw [ax_svJs rfl]; exact e)) z oq rfl rfl (fun k1 q1 t1 i1 => ax_svJ q1) hR.2.2.2) (hS.put z oq (ax_adA hk1))) k'
theorem ax_asg (vm : Vm) (c : ClassId) : vm.assignable c c = true := by
  show vm.assignableAux (255 + 1) c c = true
  rw [Vm.assignableAux]
  simp only [beq_self_eq_true, Bool.true_or]
theorem axKc_kind {a : Nat} (h : 10 ≤ a ∧ a < 52) : (a, "HexPond$Kind") ∈ axKc := by
  have h1 : ∀ n : Fin 42, ((n : Nat) + 10, "HexPond$Kind") ∈ axKc := by decide +kernel
  have h2 := h1 ⟨a - 10, by omega⟩
  have e : a - 10 + 10 = a := by omega
  simp only at h2
  rw [e] at h2
  exact h2
/-- a constant into a row of constants -/
theorem x_aast {k j n a : Nat} {i : Int} (hd : decode mt.2.1 pc = .ok (.aastore, 1)) (hk : ax_ex G M k) (hs : ax_sh M k = (36, n)) (hij : i = (j : Int)) (hj : j < n) (ha : 10 ≤ a ∧ a < 52) (hv : gPh G k = true → axFR k j = none)
    (k' : ax_Ex G mt d (pc + 1) ls st (mUR M k j (some a)) o M') : ax_Ex G mt d pc ls (vR a :: vI i :: vR k :: st) M o M' :=
  ax_mem (M1 := (mUR M k j (some a))) rfl rfl (fun hs => ax_oS_tl (ax_oS_tl (ax_oS_tl hs))) (fun g hs => ax_gR g (fun _ b e => by cases e; exact ha)) (fun C KS hR hS hos _ k2 => by
    obtain ⟨h1, h2⟩ := ax_ix (ax_oS_hd (ax_oS_tl hos)) hij hj
    obtain ⟨hk1, -, hat⟩ := hR.got hk
    obtain ⟨cv, g1, g2, g4, g5⟩ := KS.2.2.2.2.2.1 _ (axKc_kind ha)
    have g1' := (hS.2.1 _ (Array.getElem?_eq_some_iff.mp g1).1 g5).trans g1
    obtain ⟨kA, comp, k1, k2', k3, -⟩ := (KS.1.2 4 _ rfl).2
    cases Option.some.inj (k3.symm.trans g4)
    obtain ⟨kC, hkC, -⟩ := Vm.findClass_spec k3
    refine W.aast C.1 C.2.1 (ax_arrAt (t := 4) hat hs) (fun q h => by cases h) (fun h => by cases h) k1 k2' rfl hkC ⟨fun q => h1 (Or.inl q), by rw [arrV_size, h2]; exact hj⟩ g1' (fun q h => by rw [h] at g2; cases g2) hkC (ax_asg _ _) rfl rfl hd fun H1 e z oq => ?_
    rw [h2, arrV_store] at e
    exact k2 H1 _ (hR.set (M1 := (mUR M k j (some a))) hk1 (ax_atArr (t := 4) (n := n) hs (by rw [ax_svRs rfl]; exact e)) z oq rfl rfl (fun k1 q1 t1 i1 => ax_svR q1) (ax_frR hR (fun q => Or.inl (hv q)))) (hS.put z oq (ax_adA hk1))) k'
/-- statics -/
theorem x_gets {idx : Nat} {v : ax_V} (q : String × String × String × ax_V) (hd : decode mt.2.1 pc = .ok (.getstatic idx, 3)) (hq : q ∈ axS) (hv : q.2.2.2 = v) (hok : ax_ok v) (hl : Cond.fieldLink mt.1.cls idx q.1 q.2.1 q.2.2.1 ∈ ax_W)
    (k' : ax_Ex G mt d (pc + 3) ls (v :: st) M o M') : ax_Ex G mt d pc ls st M o M' :=
  ax_pure (fun hs hl hI => ⟨ax_oS_cons hok hs, hl⟩) (fun C KS hR hS hL hos _ _ k2 => va_gets C.1 C.2.1 (KS.2.1 q hq) hS C.2.2.2.2.2.1 (C.2.2.2.2.2.2.1 _ hl) (fun _ h => h) hd (by rw [hv]; exact k2 _ hL)) k'
theorem x_getsN {idx : Nat} {v : ax_V} {host : String} (q : String × String × String × ax_V) (hd : decode mt.2.1 pc = .ok (.getstatic idx, 3)) (hq : q ∈ axS) (hv : q.2.2.2 = v) (hok : ax_ok v) (hl : Cond.fieldLinkNest mt.1.cls idx q.1 q.2.1 q.2.2.1 host ∈ axNw)
    (k' : ax_Ex G mt d (pc + 3) ls (v :: st) M o M') : ax_Ex G mt d pc ls st M o M' :=
  ax_pure (fun hs hl hI => ⟨ax_oS_cons hok hs, hl⟩) (fun C KS hR hS hL hos _ _ k2 => va_getsN C.1 C.2.1 (KS.2.1 q hq) hS C.2.2.2.2.2.1 (va_Nw.use rfl (KS.2.2.2.2.2.2.2.2.2.2.2.2.1 _ hl)) (fun _ h => h) hd (by rw [hv]; exact k2 _ hL)) k'
theorem ax_K.at {U : State} {H : Heap} {k n : Nat} {ty : FieldType} {f : Nat → Value} {locs : List Loc} (h : ax_K G U U.heap k ty n f) (hS : va_S (ax_A G) U.heap H locs) : ax_K G U H k ty n f := by
  obtain ⟨cell, h1, h2, h3, h4, h5, h6⟩ := h
  exact ⟨cell, (hS.2.1 _ (Array.getElem?_eq_some_iff.mp h1).1 h6).trans h1, h2, h3, h4, h5, h6⟩
theorem x_cald {k j : Nat} {i v : Int} {l : List ax_V} (hd : decode mt.2.1 pc = .ok (.iaload, 1)) (hq : (k, FieldType.int, l) ∈ axKa) (hij : i = (j : Int)) (hj : l[j]? = some (vI v)) (hv : ax_in v)
    (k' : ax_Ex G mt d (pc + 1) ls (vI v :: st) M o M') : ax_Ex G mt d pc ls (vI i :: vR k :: st) M o M' :=
  ax_pure (fun hs hl hI => ⟨ax_oS_cons (ax_okI hv) (ax_oS_tl (ax_oS_tl hs)), hl⟩) (fun C KS hR hS hL hos _ _ k2 => by
    have hlt : j < l.length := (List.getElem?_eq_some_iff.mp hj).1
    obtain ⟨cell, g1, g2, g3, g4, g5, g6⟩ := (KS.2.2.1 _ hq).at hS
    obtain ⟨h1, h2⟩ := ax_ix (ax_oS_hd hos) hij hlt
    exact W.iald (v := .int (Int32.ofInt v)) C.1 C.2.1 g1 g2 g3 (by rw [g4]; exact h1) (by
      rw [h2, g5 j hlt]
      show some (ax_cv G (l.getD j (vI 0))) = _
      rw [List.getD_eq_getElem?_getD, hj]; rfl) rfl rfl hd (k2 _ hL)) k'
theorem x_cbald {k j : Nat} {i v : Int} {l : List ax_V} (hd : decode mt.2.1 pc = .ok (.baload, 1)) (hq : (k, FieldType.byte, l) ∈ axKa) (hij : i = (j : Int)) (hj : l[j]? = some (vI v)) (hv : ax_in v)
    (k' : ax_Ex G mt d (pc + 1) ls (vI v :: st) M o M') : ax_Ex G mt d pc ls (vI i :: vR k :: st) M o M' :=
  ax_pure (fun hs hl hI => ⟨ax_oS_cons (ax_okI hv) (ax_oS_tl (ax_oS_tl hs)), hl⟩) (fun C KS hR hS hL hos _ _ k2 => by
    have hlt : j < l.length := (List.getElem?_eq_some_iff.mp hj).1
    obtain ⟨cell, g1, g2, g3, g4, g5, g6⟩ := (KS.2.2.1 _ hq).at hS
    obtain ⟨h1, h2⟩ := ax_ix (ax_oS_hd hos) hij hlt
    exact W.bald (v := .int (Int32.ofInt v)) C.1 C.2.1 g1 g2 g3 (by rw [g4]; exact h1) (by
      rw [h2, g5 j hlt]
      show some (ax_cv G (l.getD j (vI 0))) = _
      rw [List.getD_eq_getElem?_getD, hj]; rfl) rfl rfl hd (k2 _ hL)) k'
theorem x_caald {k j a : Nat} {i : Int} {C0 : String} {l : List ax_V} (hd : decode mt.2.1 pc = .ok (.aaload, 1)) (hq : (k, FieldType.object C0, l) ∈ axKa) (hij : i = (j : Int)) (hj : l[j]? = some (vR a))
    (k' : ax_Ex G mt d (pc + 1) ls (vR a :: st) M o M') : ax_Ex G mt d pc ls (vI i :: vR k :: st) M o M' :=
  ax_pure (fun hs hl hI => ⟨ax_oS_cons ax_okR (ax_oS_tl (ax_oS_tl hs)), hl⟩) (fun C KS hR hS hL hos _ _ k2 => by
    have hlt : j < l.length := (List.getElem?_eq_some_iff.mp hj).1
    obtain ⟨cell, g1, g2, g3, g4, g5, g6⟩ := (KS.2.2.1 _ hq).at hS
    obtain ⟨h1, h2⟩ := ax_ix (ax_oS_hd hos) hij hlt
    exact W.aald (v := ax_cv G (vR a)) C.1 C.2.1 g1 g2 rfl g3 (by rw [g4]; exact h1) (by
      rw [h2, g5 j hlt]
      show some (ax_cv G (l.getD j (vI 0))) = _
      rw [List.getD_eq_getElem?_getD, hj]; rfl) rfl rfl hd (k2 _ hL)) k'
theorem x_clen {k n : Nat} {ty : FieldType} {l : List ax_V} (hd : decode mt.2.1 pc = .ok (.arraylength, 1)) (hq : (k, ty, l) ∈ axKa) (hn : l.length = n) (hn2 : n < 2147483648)
    (k' : ax_Ex G mt d (pc + 1) ls (vI (n : Int) :: st) M o M') : ax_Ex G mt d pc ls (vR k :: st) M o M' :=
  ax_pure (fun hs hl hI => ⟨ax_oS_cons (ax_okI ⟨by omega, by omega⟩) (ax_oS_tl hs), hl⟩) (fun C KS hR hS hL hos _ _ k2 => by
    obtain ⟨cell, g1, g2, g3, g4, g5, g6⟩ := (KS.2.2.1 _ hq).at hS
    exact W.alen (n := Int32.ofInt (n : Int)) C.1 C.2.1 g1 g2 (by rw [g4]; simp only; rw [hn]; rfl) rfl rfl hd (k2 _ hL)) k'
theorem x_sald {j : Nat} {i : Int} (hd : decode mt.2.1 pc = .ok (.iaload, 1)) (hij : i = (j : Int)) (hj : j < gN G) (hin : ax_in (gX G j))
    (k' : ax_Ex G mt d (pc + 1) ls (vI (gX G j) :: st) M o M') : ax_Ex G mt d pc ls (vI i :: vR 0 :: st) M o M' :=
  ax_pure (fun hs hl hI => ⟨ax_oS_cons (ax_okI hin) (ax_oS_tl (ax_oS_tl hs)), hl⟩) (fun C KS hR hS hL hos _ _ k2 => by
    obtain ⟨cell, g1, g2, g3, g4, g5, g6⟩ := (KS.2.2.2.1).at hS
    obtain ⟨h1, h2⟩ := ax_ix (ax_oS_hd hos) hij hj
    exact W.iald (v := .int (Int32.ofInt (gX G j))) C.1 C.2.1 g1 g2 g3 (by rw [g4]; exact h1) (by rw [h2, g5 j hj]) rfl rfl hd (k2 _ hL)) k'
theorem x_slen (hd : decode mt.2.1 pc = .ok (.arraylength, 1)) (hn : gN G < 2147483648)
    (k' : ax_Ex G mt d (pc + 1) ls (vI (gN G : Int) :: st) M o M') : ax_Ex G mt d pc ls (vR 0 :: st) M o M' :=
  ax_pure (fun hs hl hI => ⟨ax_oS_cons (ax_okI ⟨by omega, by omega⟩) (ax_oS_tl hs), hl⟩) (fun C KS hR hS hL hos _ _ k2 => by
    obtain ⟨cell, g1, g2, g3, g4, g5, g6⟩ := (KS.2.2.2.1).at hS
    exact W.alen (n := Int32.ofInt (gN G : Int)) C.1 C.2.1 g1 g2 (by rw [g4]; rfl) rfl rfl hd (k2 _ hL)) k'
/-- a constant's field -/
theorem x_getc {idx k : Nat} {v : ax_V} {ow nm ds : String} (hd : decode mt.2.1 pc = .ok (.getfield idx, 3)) (hq : (k, ow, nm, ds, v) ∈ axKf) (hok : ax_ok v) (hl : Cond.fieldLink mt.1.cls idx ow nm ds ∈ ax_W)
    (k' : ax_Ex G mt d (pc + 3) ls (v :: st) M o M') : ax_Ex G mt d pc ls (vR k :: st) M o M' :=
  ax_pure (fun hs hl hI => ⟨ax_oS_cons hok (ax_oS_tl hs), hl⟩) (fun C KS hR hS hL hos _ _ k2 => vk_getf C.1 C.2.1 (KS.2.2.2.2.1 _ hq) hS C.2.2.2.2.2.1 (C.2.2.2.2.2.2.1 _ hl) (fun _ h => h) hd (k2 _ hL)) k'
end AXH
