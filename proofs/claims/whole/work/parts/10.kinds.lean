/-! the kinds of calls -/
section AXK
variable {G : ax_G} {mt mt' : ax_T} {d pc n idx : Nat} {vs rest : List ax_V} {M M1 : ax_M} {o : Option ax_V ⊕ String}
/-- a receiver of a class -/
def ax_rc (G : ax_G) (M : ax_M) (k : Nat) (C : String) : Prop := ∀ (s : State) (H : Heap) (locs : List Loc), ax_KS G s → ax_Rel G M H → va_S (ax_A G) s.heap H locs → ∃ cell : Cell, H[ax_ad G k]? = some cell ∧ cell.vm.isStatics = false ∧ s.vm.findClass C = some cell.cls
theorem ax_rcO {k t n : Nat} (hk : ax_ex G M k) (hs : ax_sh M k = (t, n)) (ht : t < 13) : ax_rc G M k (axR t) := by
  intro s H locs KS hR hS
  obtain ⟨cell, q1, q2, q3, q4⟩ := ax_objAt (hR.got hk).2.2 hs (by omega)
  obtain ⟨-, hfc, -⟩ := KS.1.1 t _ (axCl_at (by omega))
  exact ⟨cell, q1, by rw [q3]; rfl, by rw [q2]; exact hfc⟩
theorem ax_rcK {k : Nat} {C : String} (h : (k, C) ∈ axKc) : ax_rc G M k C := by
  intro s H locs KS hR hS
  obtain ⟨cell, g1, g2, g4, g5⟩ := KS.2.2.2.2.2.1 _ h
  exact ⟨cell, (hS.2.1 _ (Array.getElem?_eq_some_iff.mp g1).1 g5).trans g1, g2, g4⟩
theorem ax_sum : ∀ {l : List Value}, (l.map fun v => v.category).sum ≤ 2 * l.length
  | [] => Nat.le_refl _
  | v :: t => by
    have ih := ax_sum (l := t)
    have h : v.category ≤ 2 := by cases v <;> simp [Value.category]
    simp only [List.map_cons, List.sum_cons, List.length_cons]
    omega
theorem ax_rest (h : rest.length ≤ 4) : 2 * (F0 (⟨0, 0⟩ : MethodId) 0 #[] []).monitorRoom + ((rest.map (ax_cv G)).map fun v => v.category).sum ≤ 8 := by
  have h1 := ax_sum (l := rest.map (ax_cv G))
  rw [List.length_map] at h1
  show 2 * 0 + _ ≤ 8
  omega
theorem ax_stk {b : List ax_V} : (b.reverse ++ rest).map (ax_cv G) = (b.map (ax_cv G)).reverse ++ rest.map (ax_cv G) := by
  rw [List.map_append, List.map_reverse]
theorem ax_stkV {k : Nat} {as : List ax_V} : ((vR k :: as).reverse ++ rest).map (ax_cv G) = (as.map (ax_cv G)).reverse ++ .ref (ax_ad G k) :: rest.map (ax_cv G) := by
  rw [ax_stk, List.map_cons, List.reverse_cons, List.append_assoc]
  rfl
theorem ax_loc {a d L : Nat} (h : a ≤ 21) (h2 : 40 * (d + 1) ≤ L) : 8 + (a + 11) + 40 * d ≤ L := by omega
/-- static, of a class by its name -/
theorem ax_caS (hd : decode mt.2.1 pc = .ok (.invokestatic idx, 3)) (K : ax_Kn mt' n) (hh : mt'.2.2.2.2 = []) (hn : vs.length = n) (hl : Cond.methodLink mt.1.cls idx mt'.1 ∈ ax_W) (hst : Cond.static mt'.1 ∈ ax_W) (hin : Cond.initialized mt'.1.cls ∈ ax_W) (hr : rest.length ≤ 4) : ax_Ca G mt mt' d pc vs rest M o M1 := by
  intro p e R s m args below meth c H locs cells slots lc hM C KS h0 hd' hlo hc hs hR hS hsz
  have e1 : ax_cw mt' = Cond.code mt'.1 mt'.2.1 mt'.2.2.1 mt'.2.2.2.1 := if_pos hh
  have hts := C.2.2.2.2.2.2.1
  obtain ⟨hpl, hcw, hmh, hpn, hml⟩ := K
  refine vx_runS (cc := mt.2.1) (nL := mt.2.2.1) (bytes := mt'.2.1) (maxL := mt'.2.2.1) (ret := mt'.2.2.2.1) (index := idx) (n := n) (own := mt.1.cls) (Ts := ax_W) ⟨C.1, C.2.1, C.2.2.1, C.2.2.2.2.2.1, hts⟩ hM ⟨callB_of n hts (ax_gin hcw) (by rw [e1]) rfl rfl (hts _ hin) (hts _ hl) ⟨hmh.1, hmh.2, hpn⟩ ⟨hd', ax_loc hml hlo⟩, hts _ hst⟩ ⟨ax_blind, fun U hU hW => ax_into KS h0 hR hS hU hW⟩ rfl (by rw [List.length_map]; exact hn) (hsz.trans C.2.2.1) ?_ (ax_rest hr) hd ⟨hc, hs⟩
  exact ax_stk
/-- virtual, or private of the own class -/
theorem ax_caV {k : Nat} {as : List ax_V} (hd : decode mt.2.1 pc = .ok (.invokevirtual idx, 3)) (K : ax_Kn mt' n) (hh : mt'.2.2.2.2 = []) (hn : as.length = n) (hl : Cond.methodLink mt.1.cls idx mt'.1 ∈ ax_W) (hi : Cond.instanceMethod mt'.1 ∈ ax_W) (hse : Cond.selects mt'.1.cls mt'.1 mt'.1 ∈ ax_W) (hin : Cond.initialized mt'.1.cls ∈ ax_W) (hrc : ax_rc G M k mt'.1.cls) (hr : rest.length ≤ 4) : ax_Ca G mt mt' d pc (vR k :: as) rest M o M1 := by
  intro p e R s m args below meth c H locs cells slots lc hM C KS h0 hd' hlo hc hs hR hS hsz
  have e1 : ax_cw mt' = Cond.code mt'.1 mt'.2.1 mt'.2.2.1 mt'.2.2.2.1 := if_pos hh
  have hts := C.2.2.2.2.2.2.1
  obtain ⟨hpl, hcw, hmh, hpn, hml⟩ := K
  rw [ax_stkV]
  exact vx_runV (cc := mt.2.1) (nL := mt.2.2.1) (bytes := mt'.2.1) (maxL := mt'.2.2.1) (ret := mt'.2.2.2.1) (index := idx) (n := n) (own := mt.1.cls) (C := mt'.1.cls) (Ts := ax_W) ⟨C.1, C.2.1, C.2.2.1, C.2.2.2.2.2.1, hts⟩ hM ⟨callB_of n hts (ax_gin hcw) (by rw [e1]) rfl rfl (hts _ hin) (hts _ hl) ⟨hmh.1, hmh.2, hpn⟩ ⟨hd', ax_loc hml hlo⟩, hts _ hi, hts _ hse⟩ ⟨ax_blind, hrc s H locs KS hR hS, fun U hU hW => ax_into KS h0 hR hS hU hW⟩ rfl (by rw [List.length_map]; exact hn) (hsz.trans C.2.2.1) rfl (ax_rest hr) hd ⟨hc, hs⟩
/-- a constructor -/
theorem ax_caI {k : Nat} {as : List ax_V} (hd : decode mt.2.1 pc = .ok (.invokespecial idx, 3)) (K : ax_Kn mt' n) (hh : mt'.2.2.2.2 = []) (hret : mt'.2.2.2.1 = none) (hnm : mt'.1.name = "<init>") (hn : as.length = n) (hl : Cond.methodLink mt.1.cls idx mt'.1 ∈ ax_W) (hi : Cond.instanceMethod mt'.1 ∈ ax_W) (hin : Cond.initialized mt'.1.cls ∈ ax_W) (hr : rest.length ≤ 4) : ax_Ca G mt mt' d pc (vR k :: as) rest M o M1 := by
  intro p e R s m args below meth c H locs cells slots lc hM C KS h0 hd' hlo hc hs hR hS hsz
  have e1 : ax_cw mt' = Cond.code mt'.1 mt'.2.1 mt'.2.2.1 none := (if_pos hh).trans (by rw [hret])
  have hts := C.2.2.2.2.2.2.1
  obtain ⟨hpl, hcw, hmh, hpn, hml⟩ := K
  rw [ax_stkV]
  exact vx_runI (cc := mt.2.1) (nL := mt.2.2.1) (bytes := mt'.2.1) (maxL := mt'.2.2.1) (index := idx) (n := n) (own := mt.1.cls) (Ts := ax_W) ⟨C.1, C.2.1, C.2.2.1, C.2.2.2.2.2.1, hts⟩ hM ⟨callB_of n hts (ax_gin hcw) (by rw [e1]) rfl rfl (hts _ hin) (hts _ hl) ⟨hmh.1, hmh.2, hpn⟩ ⟨hd', ax_loc hml hlo⟩, hnm, hts _ hi⟩ ⟨ax_blind, fun U hU hW => ax_into KS h0 hR hS hU hW⟩ rfl (by rw [List.length_map]; exact hn) (hsz.trans C.2.2.1) rfl (ax_rest hr) hd ⟨hc, hs⟩
/-- a constructor of a nest mate -/
theorem ax_caIN {k : Nat} {as : List ax_V} {host : String} (hd : decode mt.2.1 pc = .ok (.invokespecial idx, 3)) (K : ax_Kn mt' n) (hh : mt'.2.2.2.2 = []) (hret : mt'.2.2.2.1 = none) (hnm : mt'.1.name = "<init>") (hn : as.length = n) (hl : Cond.methodLinkNest mt.1.cls idx mt'.1 host ∈ axNw) (hi : Cond.instanceMethod mt'.1 ∈ ax_W) (hin : Cond.initialized mt'.1.cls ∈ ax_W) (hr : rest.length ≤ 4) : ax_Ca G mt mt' d pc (vR k :: as) rest M o M1 := by
  intro p e R s m args below meth c H locs cells slots lc hM C KS h0 hd' hlo hc hs hR hS hsz
  have e1 : ax_cw mt' = Cond.code mt'.1 mt'.2.1 mt'.2.2.1 none := (if_pos hh).trans (by rw [hret])
  have hts := C.2.2.2.2.2.2.1
  obtain ⟨hpl, hcw, hmh, hpn, hml⟩ := K
  rw [ax_stkV]
  exact vx_runIN (cc := mt.2.1) (nL := mt.2.2.1) (bytes := mt'.2.1) (maxL := mt'.2.2.1) (index := idx) (n := n) (own := mt.1.cls) (host := host) (Ts := ax_W) ⟨C.1, C.2.1, C.2.2.1, C.2.2.2.2.2.1, hts⟩ hM ⟨va_cnB n hts (ax_gin hcw) (by rw [e1]) rfl rfl (KS.2.2.2.2.2.2.2.2.2.2.2.2.1 _ hl) (hts _ hin) ⟨hmh.1, hmh.2, hpn⟩ ⟨hd', ax_loc hml hlo⟩, hnm, hts _ hi⟩ ⟨ax_blind, fun U hU hW => ax_into KS h0 hR hS hU hW⟩ rfl (by rw [List.length_map]; exact hn) (hsz.trans C.2.2.1) rfl (ax_rest hr) hd ⟨hc, hs⟩
/-- static, with handlers -/
theorem ax_caSH (hd : decode mt.2.1 pc = .ok (.invokestatic idx, 3)) (K : ax_Kn mt' n) (hh : ¬ mt'.2.2.2.2 = []) (hn : vs.length = n) (hl : Cond.methodLink mt.1.cls idx mt'.1 ∈ ax_W) (hst : Cond.static mt'.1 ∈ ax_W) (hin : Cond.initialized mt'.1.cls ∈ ax_W) (hr : rest.length ≤ 4) : ax_Ca G mt mt' d pc vs rest M o M1 := by
  intro p e R s m args below meth c H locs cells slots lc hM C KS h0 hd' hlo hc hs hR hS hsz
  have e1 : ax_cw mt' = Cond.codeWith mt'.1 mt'.2.1 mt'.2.2.1 mt'.2.2.2.1 mt'.2.2.2.2 := if_neg hh
  have hts := C.2.2.2.2.2.2.1
  obtain ⟨hpl, hcw, hmh, hpn, hml⟩ := K
  refine vx_runSX (hh := mt'.2.2.2.2) (cc := mt.2.1) (nL := mt.2.2.1) (bytes := mt'.2.1) (maxL := mt'.2.2.1) (ret := mt'.2.2.2.1) (index := idx) (n := n) (own := mt.1.cls) (Ts := ax_W) ⟨C.1, C.2.1, C.2.2.1, C.2.2.2.2.2.1, hts⟩ hM ?_ ⟨ax_blind, fun U hU hW => ax_into KS h0 hR hS hU hW⟩ rfl (by rw [List.length_map]; exact hn) (hsz.trans C.2.2.1) ?_ (ax_rest hr) hd ⟨hc, hs⟩
  · refine vx_cwSW (Ts := ax_W) n hts ?_ (by rw [e1]) rfl rfl ⟨hmh.1, hmh.2, hpn⟩ ⟨hd', ax_loc hml hlo⟩
    intro w hw
    have h1 : w ∈ ax_W := by
      rcases List.mem_append.mp hw with hw | hw
      · rcases List.mem_cons.mp hw with rfl | hw
        · exact hl
        · rcases List.mem_cons.mp hw with rfl | hw
          · exact hst
          · rcases List.mem_cons.mp hw with rfl | hw
            · exact hin
            · cases hw
      · exact (ax_gin hcw w hw).1
    exact ⟨h1, good_of_word (ax_Wg h1)⟩
  · exact ax_stk
end AXK
