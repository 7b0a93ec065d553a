/-! rows over the memory: fields, arrays -/
section AXM
theorem axCl_at {t : Nat} (ht : t < 16) : axCl[t]? = some (axR t, axT t, axN t) := by
  have h : t < axCl.length := ht
  have e := List.getElem?_eq_getElem h
  unfold axR axT axN
  rw [e]
  rfl
theorem ax_lays : ∀ t, t < 13 → ∀ w ∈ u_ws (axR t) (axT t) (axN t), w ∈ ax_W := by
  have h : (List.range 13).all (fun t => (u_ws (axR t) (axT t) (axN t)).all (fun w => decide (w ∈ ax_W))) = true := by decide +kernel
  intro t ht w hw
  have h1 := List.all_eq_true.mp h t (List.mem_range.mpr ht)
  have h2 := List.all_eq_true.mp h1 w hw
  simpa using h2
theorem ax_nms : ∀ t, t < 13 → ∀ a, a < axN t → ∀ b, b < axN t → a ≠ b → (axT t a).2.1 ≠ (axT t b).2.1 := by decide +kernel
theorem ax_tfs : ∀ t, t < 13 → ∀ j, j < axN t → parseFieldDescriptor (axT t j).2.2.1 = some (ax_tf t j) := by decide +kernel
variable {G : ax_G} {mt : ax_T} {d pc : Nat} {ls : List (Option ax_V)} {st : List ax_V} {M M' M1 : ax_M} {o : Option ax_V ⊕ String}
def ax_ex (G : ax_G) (M : ax_M) (k : Nat) : Prop := axC ≤ k ∧ (k < axC + mSz M ∨ gPh G k = true)
theorem ax_exB {k : Nat} (h : gPh G k = true) (h0 : axC ≤ k) : ax_ex G M k := ⟨h0, Or.inr h⟩
theorem ax_Rel.got {H : Heap} (h : ax_Rel G M H) {k : Nat} (hk : ax_ex G M k) : axC ≤ k ∧ k < axC + mSz M ∧ ax_At G M H k := by
  obtain ⟨h1, h2⟩ := hk
  have h3 : k < axC + mSz M := by
    rcases h2 with h2 | h2
    · exact h2
    · exact (h.2.1 k h2).2
  exact ⟨h1, h3, h.2.2.1 k h1 h3⟩
theorem ax_adC {k : Nat} (h : axC ≤ k) : ax_ad G k = gSz G + (k - axC) := if_neg (by omega)
theorem ax_adA {k : Nat} (h : axC ≤ k) : ax_A G (ax_ad G k) := by
  rw [ax_adC h]
  exact Nat.le_add_right _ _
theorem ax_Rel.set {H H1 : Heap} (h : ax_Rel G M H) {k : Nat} (hk : axC ≤ k) (e : ax_At G M1 H1 k) (z : H1.size = H.size) (oq : ∀ q, q ≠ ax_ad G k → H1[q]? = H[q]?) (hz : mSz M1 = mSz M) (hsh : mSh M1 = mSh M)
    (oth : ∀ k', k' ≠ k → ∀ t i, ax_sv G M1 t k' i = ax_sv G M t k' i) (hfr : ∀ k, gPh G k = true → ∀ j r, axFR k j = some r → mR M1 k j = some r) : ax_Rel G M1 H1 := by
  obtain ⟨h1, h3, h4, h5⟩ := h
  refine ⟨by rw [z, h1, hz], fun k' hp => by rw [hz]; exact h3 k' hp, fun k' hc hk' => ?_, hfr⟩
  rw [hz] at hk'
  by_cases hkk : k' = k
  · subst hkk; exact e
  · have ha : ax_ad G k' ≠ ax_ad G k := by rw [ax_adC hc, ax_adC hk]; omega
    have hat := h4 k' hc hk'
    have es : ax_sh M1 k' = ax_sh M k' := by unfold ax_sh; rw [hsh]
    unfold ax_At at hat ⊢
    rw [es]
    by_cases ht : (ax_sh M k').1 < 32
    · rw [if_pos ht] at hat ⊢
      exact (hat.kept (oq _ ha)).to (fun i _ => (oth k' hkk _ i).symm)
    · rw [if_neg ht] at hat ⊢
      rw [oq _ ha, hat]
      exact congrArg (fun f => some (arrV _ _ f)) (funext fun i => (oth k' hkk _ i).symm)
theorem ax_objAt {H : Heap} {k t n : Nat} (h : ax_At G M H k) (hs : ax_sh M k = (t, n)) (ht : t < 32) : t_OB (ax_ad G k) (gDC G t) (axN t) (gDI G t) H (ax_sv G M t k) := by
  unfold ax_At at h
  rw [hs, if_pos ht] at h
  exact h
theorem ax_arrAt {H : Heap} {k t n : Nat} (h : ax_At G M H k) (hs : ax_sh M k = (t + 32, n)) : H[ax_ad G k]? = some (arrV (gCA G t) n (ax_sv G M (t + 32) k)) := by
  unfold ax_At at h
  rw [hs, if_neg (by simp)] at h
  simpa using h
theorem ax_atObj {H : Heap} {k t n : Nat} (hs : ax_sh M k = (t, n)) (ht : t < 32) (h : t_OB (ax_ad G k) (gDC G t) (axN t) (gDI G t) H (ax_sv G M t k)) : ax_At G M H k := by
  unfold ax_At
  rw [hs, if_pos ht]
  exact h
theorem ax_atArr {H : Heap} {k t n : Nat} (hs : ax_sh M k = (t + 32, n)) (h : H[ax_ad G k]? = some (arrV (gCA G t) n (ax_sv G M (t + 32) k))) : ax_At G M H k := by
  unfold ax_At
  rw [hs, if_neg (by simp)]
  simpa using h
theorem ax_sv0 {t k j : Nat} (h : ax_kd t j = 0) : ax_sv G M t k j = .int (Int32.ofInt (mI M k j)) := by
  unfold ax_sv
  rw [h]
  rfl
theorem ax_sv1 {t k j : Nat} (h : ax_kd t j = 1) : ax_sv G M t k j = ax_rv G (mR M k j) := by
  unfold ax_sv
  rw [h]
  rfl
theorem ax_sv2 {t k j : Nat} (h : ax_kd t j = 2) : ax_sv G M t k j = .long (mJ M k j) := by
  unfold ax_sv
  rw [h]
  rfl
theorem ax_kdc (t j : Nat) : ax_kd t j = 0 ∨ ax_kd t j = 1 ∨ ax_kd t j = 2 := by
  have h : ∀ ty : FieldType, ax_kt ty = 0 ∨ ax_kt ty = 1 ∨ ax_kt ty = 2 := by
    intro ty
    cases ty <;> simp [ax_kt]
  unfold ax_kd
  split
  · exact h _
  · exact h _
theorem ax_svI {t k k' j i : Nat} {v : Int} (h : k' ≠ k) : ax_sv G (mUI M k j v) t k' i = ax_sv G M t k' i := by
  rcases ax_kdc t i with e | e | e
  · rw [ax_sv0 e, ax_sv0 e]
    simp only [mUI, mI, ax_up]
    rw [if_neg (fun q => h q.1)]
  · rw [ax_sv1 e, ax_sv1 e]
  · rw [ax_sv2 e, ax_sv2 e]
theorem ax_svR {t k k' j i : Nat} {v : Option Nat} (h : k' ≠ k) : ax_sv G (mUR M k j v) t k' i = ax_sv G M t k' i := by
  rcases ax_kdc t i with e | e | e
  · rw [ax_sv0 e, ax_sv0 e]
  · rw [ax_sv1 e, ax_sv1 e]
    simp only [mUR, mR, ax_up]
    rw [if_neg (fun q => h q.1)]
  · rw [ax_sv2 e, ax_sv2 e]
theorem ax_svJ {t k k' j i : Nat} {v : Int64} (h : k' ≠ k) : ax_sv G (mUJ M k j v) t k' i = ax_sv G M t k' i := by
  rcases ax_kdc t i with e | e | e
  · rw [ax_sv0 e, ax_sv0 e]
  · rw [ax_sv1 e, ax_sv1 e]
  · rw [ax_sv2 e, ax_sv2 e]
    simp only [mUJ, mJ, ax_up]
    rw [if_neg (fun q => h q.1)]
theorem ax_svIs {t k j : Nat} {v : Int} (h : ax_kd t j = 0) : ax_sv G (mUI M k j v) t k = updV (ax_sv G M t k) j (.int (Int32.ofInt v)) := by
  funext i
  unfold updV
  by_cases e : i = j
  · subst e
    rw [if_pos rfl, ax_sv0 h]
    simp [mI, mUI, ax_up]
  · rw [if_neg e]
    rcases ax_kdc t i with e1 | e1 | e1
    · rw [ax_sv0 e1, ax_sv0 e1]
      simp only [mUI, mI, ax_up]
      rw [if_neg (fun q => e q.2)]
    · rw [ax_sv1 e1, ax_sv1 e1]
    · rw [ax_sv2 e1, ax_sv2 e1]
theorem ax_svRs {t k j : Nat} {v : Option Nat} (h : ax_kd t j = 1) : ax_sv G (mUR M k j v) t k = updV (ax_sv G M t k) j (ax_rv G v) := by
  funext i
  unfold updV
  by_cases e : i = j
  · subst e
    rw [if_pos rfl, ax_sv1 h]
    simp [mR, mUR, ax_up]
  · rw [if_neg e]
    rcases ax_kdc t i with e1 | e1 | e1
    · rw [ax_sv0 e1, ax_sv0 e1]
    · rw [ax_sv1 e1, ax_sv1 e1]
      simp only [mUR, mR, ax_up]
      rw [if_neg (fun q => e q.2)]
    · rw [ax_sv2 e1, ax_sv2 e1]
theorem ax_svJs {t k j : Nat} {v : Int64} (h : ax_kd t j = 2) : ax_sv G (mUJ M k j v) t k = updV (ax_sv G M t k) j (.long v) := by
  funext i
  unfold updV
  by_cases e : i = j
  · subst e
    rw [if_pos rfl, ax_sv2 h]
    simp [mJ, mUJ, ax_up]
  · rw [if_neg e]
    rcases ax_kdc t i with e1 | e1 | e1
    · rw [ax_sv0 e1, ax_sv0 e1]
    · rw [ax_sv1 e1, ax_sv1 e1]
    · rw [ax_sv2 e1, ax_sv2 e1]
      simp only [mUJ, mJ, ax_up]
      rw [if_neg (fun q => e q.2)]
/-- a row that writes -/
theorem ax_mem {pc' : Nat} {st' : List ax_V} (hsz : mSz M1 = mSz M) (hsl : mSl M1 = mSl M) (hok : ax_oS st → ax_oS st') (hg : ax_g M → ax_oS st → ax_g M1)
    (h : ∀ {p : Program} {e : Env} {R : Room} {s : State} {m : MethodId} {args : Array Value} {below : List Frame} {meth : Method} {c : Code} {Q : State → Prop} {H : Heap} {locs : List Loc} {cells slots : Nat} {lc : Array Slot},
      ax_C mt p s m args meth c → ax_KS G s → ax_Rel G M H → va_S (ax_A G) s.heap H locs → ax_oS st → (lc.size = c.maxLocals) →
      (∀ (H1 : Heap) (locs1 : List Loc), ax_Rel G M1 H1 → va_S (ax_A G) s.heap H1 locs1 → W p (gL G) e R s m args below meth c H1 locs1 cells slots Q (F0 m pc' lc (st'.map (ax_cv G)))) →
      W p (gL G) e R s m args below meth c H locs cells slots Q (F0 m pc lc (st.map (ax_cv G))))
    (k : ax_Ex G mt d pc' ls st' M1 o M') : ax_Ex G mt d pc ls st M o M' := by
  intro g hos hol
  obtain ⟨⟨k0, k00, k1, k2⟩, k3⟩ := k (hg g hos) (hok hos) hol
  rw [hsz] at k1
  rw [hsl] at k2
  rw [hsz, hsl] at k3
  exact ⟨⟨k0, k00, k1, k2⟩, fun p e R s m args below meth c Q n1 n2 H locs cells slots lc C KS h0 hd hl hc hs e1 e2 hR hS hL hF =>
    h C KS hR hS hos (hL.1.trans C.2.2.1.symm) (fun H1 locs1 hR1 hS1 => k3 p e R s m args below meth c Q n1 n2 H1 locs1 cells slots lc C KS h0 hd hl hc hs e1 e2 hR1 hS1 hL hF)⟩
section XW
variable {p : Program} {e : Env} {R : Room} {s : State} {m : MethodId} {args : Array Value} {below : List Frame} {meth : Method} {c : Code} {Q : State → Prop} {H : Heap} {locs : List Loc} {cells slots : Nat} {lc : Array Slot} {rest : List Value}
theorem axw_get {idx k t j n : Nat} (C : ax_C mt p s m args meth c) (KS : ax_KS G s) (hat : ax_At G M H k) (hs : ax_sh M k = (t, n)) (ht : t < 13) (hj : j < axN t) (hl : Cond.fieldLink mt.1.cls idx (axT t j).1 (axT t j).2.1 (axT t j).2.2.1 ∈ ax_W) (hd : decode mt.2.1 pc = .ok (.getfield idx, 3))
    (kk : W p (gL G) e R s m args below meth c H locs cells slots Q (F0 m (pc + 3) lc (ax_sv G M t k j :: rest))) : W p (gL G) e R s m args below meth c H locs cells slots Q (F0 m pc lc (.ref (ax_ad G k) :: rest)) := by
  obtain ⟨cell, q1, q2, q3, q4⟩ := ax_objAt hat hs (by omega)
  obtain ⟨hS, hfc, kC, hkC, hkind⟩ := KS.1.1 t _ (axCl_at (by omega))
  obtain ⟨cf, kf, fi, f, hi, hsl⟩ := hS j hj
  have hts := C.2.2.2.2.2.2.1
  refine W.getf C.1 C.2.1 C.2.2.2.2.2.1 (hts _ hl) hi (u_facts hfc hkC (u_lays hts (ax_lays t ht) hj) hi).1 q1 (by rw [q3]; exact fun h => by cases h) (v := ax_sv G M t k j) ?_ rfl rfl hd kk
  rw [hsl, q4 j hj]
theorem axw_getN {idx k t j n : Nat} {host : String} (C : ax_C mt p s m args meth c) (KS : ax_KS G s) (hat : ax_At G M H k) (hs : ax_sh M k = (t, n)) (ht : t < 13) (hj : j < axN t) (hl : Cond.fieldLinkNest mt.1.cls idx (axT t j).1 (axT t j).2.1 (axT t j).2.2.1 host ∈ axNw) (hd : decode mt.2.1 pc = .ok (.getfield idx, 3))
    (kk : W p (gL G) e R s m args below meth c H locs cells slots Q (F0 m (pc + 3) lc (ax_sv G M t k j :: rest))) : W p (gL G) e R s m args below meth c H locs cells slots Q (F0 m pc lc (.ref (ax_ad G k) :: rest)) := by
  obtain ⟨cell, q1, q2, q3, q4⟩ := ax_objAt hat hs (by omega)
  obtain ⟨hS, hfc, kC, hkC, hkind⟩ := KS.1.1 t _ (axCl_at (by omega))
  obtain ⟨cf, kf, fi, f, hi, hsl⟩ := hS j hj
  have hts := C.2.2.2.2.2.2.1
  refine va_Wgetf C.1 C.2.1 C.2.2.2.2.2.1 (va_Nw.use rfl (KS.2.2.2.2.2.2.2.2.2.2.2.2.1 _ hl)) hi (u_facts hfc hkC (u_lays hts (ax_lays t ht) hj) hi).1 q1 (by rw [q3]; exact fun h => by cases h) (v := ax_sv G M t k j) ?_ rfl rfl hd kk
  rw [hsl, q4 j hj]
theorem axw_put {idx k t j n : Nat} {v : Value} (C : ax_C mt p s m args meth c) (KS : ax_KS G s) (hR : ax_Rel G M H) (hS0 : va_S (ax_A G) s.heap H locs) (hk : ax_ex G M k) (hs : ax_sh M k = (t, n)) (ht : t < 13) (hj : j < axN t) (hfin : (axT t j).2.2.2 = false) (hl : Cond.fieldLink mt.1.cls idx (axT t j).1 (axT t j).2.1 (axT t j).2.2.1 ∈ ax_W) (hn : narrow (ax_tf t j) v = v) (hfit : fits (ax_tf t j) v = true) (hd : decode mt.2.1 pc = .ok (.putfield idx, 3))
    (hz : mSz M1 = mSz M) (hsh : mSh M1 = mSh M) (hup : ax_sv G M1 t k = updV (ax_sv G M t k) j v) (oth : ∀ k', k' ≠ k → ∀ t i, ax_sv G M1 t k' i = ax_sv G M t k' i) (hfr : ∀ k, gPh G k = true → ∀ j r, axFR k j = some r → mR M1 k j = some r)
    (kk : ∀ (H1 : Heap) (locs1 : List Loc), ax_Rel G M1 H1 → va_S (ax_A G) s.heap H1 locs1 → W p (gL G) e R s m args below meth c H1 locs1 cells slots Q (F0 m (pc + 3) lc rest)) : W p (gL G) e R s m args below meth c H locs cells slots Q (F0 m pc lc (v :: .ref (ax_ad G k) :: rest)) := by
  obtain ⟨hk1, hk2, hat⟩ := hR.got hk
  have hts := C.2.2.2.2.2.2.1
  have hap := va_apart (own := mt.1.cls) hts (ax_lays t ht) (ax_tf t) (ax_tfs t ht) (ax_nms t ht) KS.1 (axCl_at (by omega))
  obtain ⟨cell, q1, q2, q3, q4⟩ := ax_objAt hat hs (by omega)
  obtain ⟨hS, hfc, kC, hkC, hkind⟩ := KS.1.1 t _ (axCl_at (by omega))
  obtain ⟨cf, kf, fi, f, hi, hsl⟩ := hS j hj
  have hlay := hts _ (ax_lays t ht _ (u_in_lay hj))
  unfold u_lay at hlay
  rw [if_neg (by rw [hfin]; decide)] at hlay
  have hst := (u_facts hfc hkC (u_lays hts (ax_lays t ht) hj) hi).1
  have h6 := u_store hfc hkC hkind hlay hi (ax_tfs t ht j hj) hn hfit
  refine W.putK C.1 C.2.1 (f := f) ⟨C.2.2.2.2.2.1, hts _ hl, ⟨_, _, _, hi⟩, hst⟩ (by rw [q2]; exact h6) q1 q3 (by rw [hsl]; exact k2_hasslot (q4 j hj)) rfl rfl hd fun H' e1 e2 e3 => ?_
  rw [hsl] at e1 ⊢
  refine kk H' _ (hR.set hk1 (ax_atObj (n := n) (t := t) (by unfold ax_sh at hs ⊢; rw [hsh]; exact hs) (by omega) ?_) e2 e3 hz hsh oth hfr) (hS0.put e2 e3 (ax_adA hk1))
  exact t_OB.to (V := updV (ax_sv G M t k) j v) ⟨_, e1, q2, q3, t_set q4 hap hj v⟩ (fun i _ => by rw [hup])
theorem axw_putF {idx k t j n : Nat} {v : Value} (C : ax_C mt p s m args meth c) (KS : ax_KS G s) (hR : ax_Rel G M H) (hS0 : va_S (ax_A G) s.heap H locs) (hk : ax_ex G M k) (hs : ax_sh M k = (t, n)) (ht : t < 13) (hj : j < axN t) (hfin : (axT t j).2.2.2 = true) (hini : mt.1.name = "<init>") (hdecl : (axT t j).1 = mt.1.cls) (hl : Cond.fieldLink mt.1.cls idx (axT t j).1 (axT t j).2.1 (axT t j).2.2.1 ∈ ax_W) (hn : narrow (ax_tf t j) v = v) (hfit : fits (ax_tf t j) v = true) (hd : decode mt.2.1 pc = .ok (.putfield idx, 3))
    (hz : mSz M1 = mSz M) (hsh : mSh M1 = mSh M) (hup : ax_sv G M1 t k = updV (ax_sv G M t k) j v) (oth : ∀ k', k' ≠ k → ∀ t i, ax_sv G M1 t k' i = ax_sv G M t k' i) (hfr : ∀ k, gPh G k = true → ∀ j r, axFR k j = some r → mR M1 k j = some r)
    (kk : ∀ (H1 : Heap) (locs1 : List Loc), ax_Rel G M1 H1 → va_S (ax_A G) s.heap H1 locs1 → W p (gL G) e R s m args below meth c H1 locs1 cells slots Q (F0 m (pc + 3) lc rest)) : W p (gL G) e R s m args below meth c H locs cells slots Q (F0 m pc lc (v :: .ref (ax_ad G k) :: rest)) := by
  obtain ⟨hk1, hk2, hat⟩ := hR.got hk
  have hts := C.2.2.2.2.2.2.1
  have hap := va_apart (own := mt.1.cls) hts (ax_lays t ht) (ax_tf t) (ax_tfs t ht) (ax_nms t ht) KS.1 (axCl_at (by omega))
  obtain ⟨cell, q1, q2, q3, q4⟩ := ax_objAt hat hs (by omega)
  obtain ⟨hS, hfc, kC, hkC, hkind⟩ := KS.1.1 t _ (axCl_at (by omega))
  obtain ⟨cf, kf, fi, f, hi, hsl⟩ := hS j hj
  have hlay := hts _ (ax_lays t ht _ (u_in_lay hj))
  unfold u_lay at hlay
  rw [if_pos hfin] at hlay
  have hst := (u_facts hfc hkC (u_lays hts (ax_lays t ht) hj) hi).1
  have hown := C.2.2.2.2.2.1
  have hcf : m.cls = cf := by
    obtain ⟨_, _, c', _, _, _, -, -, hf', -, -, -, hown2, -⟩ := Cond.laysFinal_spec hlay
    have e1 : c' = cf := by have := hi.symm.trans hf'; simp at this; exact this.1.symm
    rw [hdecl] at hown2
    rw [← e1]; exact Option.some.inj (hown.symm.trans hown2)
  have h6 := u_fits hfc hkC hkind (Or.inr hlay) hi (ax_tfs t ht j hj) hn hfit
  refine W.putFinK C.1 C.2.1 hown (hts _ hl) hi hst hcf (C.2.2.2.2.2.2.2.1.trans hini) (by rw [q2]; exact h6) q1 q3 (by rw [hsl]; exact k2_hasslot (q4 j hj)) rfl rfl hd fun H' e1 e2 e3 => ?_
  rw [hsl] at e1 ⊢
  refine kk H' _ (hR.set hk1 (ax_atObj (n := n) (t := t) (by unfold ax_sh at hs ⊢; rw [hsh]; exact hs) (by omega) ?_) e2 e3 hz hsh oth hfr) (hS0.put e2 e3 (ax_adA hk1))
  exact t_OB.to (V := updV (ax_sv G M t k) j v) ⟨_, e1, q2, q3, t_set q4 hap hj v⟩ (fun i _ => by rw [hup])
theorem axw_putN {idx k t j n : Nat} {v : Value} {host : String} (C : ax_C mt p s m args meth c) (KS : ax_KS G s) (hR : ax_Rel G M H) (hS0 : va_S (ax_A G) s.heap H locs) (hk : ax_ex G M k) (hs : ax_sh M k = (t, n)) (ht : t < 13) (hj : j < axN t) (hfin : (axT t j).2.2.2 = false) (hl : Cond.fieldLinkNest mt.1.cls idx (axT t j).1 (axT t j).2.1 (axT t j).2.2.1 host ∈ axNw) (hn : narrow (ax_tf t j) v = v) (hfit : fits (ax_tf t j) v = true) (hd : decode mt.2.1 pc = .ok (.putfield idx, 3))
    (hz : mSz M1 = mSz M) (hsh : mSh M1 = mSh M) (hup : ax_sv G M1 t k = updV (ax_sv G M t k) j v) (oth : ∀ k', k' ≠ k → ∀ t i, ax_sv G M1 t k' i = ax_sv G M t k' i) (hfr : ∀ k, gPh G k = true → ∀ j r, axFR k j = some r → mR M1 k j = some r)
    (kk : ∀ (H1 : Heap) (locs1 : List Loc), ax_Rel G M1 H1 → va_S (ax_A G) s.heap H1 locs1 → W p (gL G) e R s m args below meth c H1 locs1 cells slots Q (F0 m (pc + 3) lc rest)) : W p (gL G) e R s m args below meth c H locs cells slots Q (F0 m pc lc (v :: .ref (ax_ad G k) :: rest)) := by
  obtain ⟨hk1, hk2, hat⟩ := hR.got hk
  have hts := C.2.2.2.2.2.2.1
  have hap := va_apart (own := mt.1.cls) hts (ax_lays t ht) (ax_tf t) (ax_tfs t ht) (ax_nms t ht) KS.1 (axCl_at (by omega))
  obtain ⟨cell, q1, q2, q3, q4⟩ := ax_objAt hat hs (by omega)
  obtain ⟨hS, hfc, kC, hkC, hkind⟩ := KS.1.1 t _ (axCl_at (by omega))
  obtain ⟨cf, kf, fi, f, hi, hsl⟩ := hS j hj
  have hlay := hts _ (ax_lays t ht _ (u_in_lay hj))
  unfold u_lay at hlay
  rw [if_neg (by rw [hfin]; decide)] at hlay
  have hst := (u_facts hfc hkC (u_lays hts (ax_lays t ht) hj) hi).1
  have h6 := u_store hfc hkC hkind hlay hi (ax_tfs t ht j hj) hn hfit
  refine va_WputK C.1 C.2.1 (f := f) C.2.2.2.2.2.1 (va_Nw.use rfl (KS.2.2.2.2.2.2.2.2.2.2.2.2.1 _ hl)) hi hst (by rw [q2]; exact h6) q1 q3 (by rw [hsl]; exact k2_hasslot (q4 j hj)) rfl rfl hd fun H' e1 e2 e3 => ?_
  rw [hsl] at e1 ⊢
  refine kk H' _ (hR.set hk1 (ax_atObj (n := n) (t := t) (by unfold ax_sh at hs ⊢; rw [hsh]; exact hs) (by omega) ?_) e2 e3 hz hsh oth hfr) (hS0.put e2 e3 (ax_adA hk1))
  exact t_OB.to (V := updV (ax_sv G M t k) j v) ⟨_, e1, q2, q3, t_set q4 hap hj v⟩ (fun i _ => by rw [hup])
end XW
end AXM
