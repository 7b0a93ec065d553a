/-! catching; a call of a method that is inherited; quotients -/
section AXV
variable {G : ax_G} {mt mt' : ax_T} {d pc pc' : Nat} {ls ls' : List (Option ax_V)} {st st' rest vs : List ax_V} {M M' M1 : ax_M} {o : Option ax_V ⊕ String} {n k idx : Nat}
theorem ax_st0 {ls : List (Option ax_V)} {i : Nat} {w : Value} (hc : ax_c1 ls i = true) : ∀ q ∈ ax_lp G 0 (ls.set i none), q ∈ (i, w) :: (ax_lp G 0 ls).filter (fun q => !(q.1 == i) && !(q.1 + 1 == i && q.2.category == 2)) := by
  rintro ⟨j, w'⟩ hq
  obtain ⟨j', u, e, hu, rfl⟩ := (ax_lp_mem _ 0 j w').mp hq
  have e : j = j' := by omega
  subst e
  by_cases hji : j = i
  · subst hji
    rw [List.getElem?_set] at hu
    split at hu
    · split at hu <;> cases hu
    · rename_i z; exact absurd rfl z
  · rw [List.getElem?_set_ne (Ne.symm hji)] at hu
    refine List.mem_cons_of_mem _ (List.mem_filter.mpr ⟨(ax_lp_mem ls 0 j _).mpr ⟨j, u, by omega, hu, rfl⟩, ?_⟩)
    simp only [Bool.and_eq_true, Bool.not_eq_true', beq_eq_false_iff_ne, ne_eq, Bool.and_eq_false_iff]
    refine ⟨hji, ?_⟩
    by_cases h1 : j + 1 = i
    · right
      simpa using ax_cat' (ax_c1_of hc hu h1)
    · left
      simpa using h1
/-- a call that throws what this method catches: its handler keeps it and goes on -/
theorem x_catch {E : String} {i len : Nat} {x : ExceptionTableEntry} {pre suf : List ExceptionTableEntry} (ca : ax_Ca G mt mt' d pc vs rest M (.inr E) M1) (K : ax_Kn mt' n) (hlen : (ax_args vs).length + k = mt'.2.2.1)
    (htb : tableOf mt.2.2.2.2 = pre ++ x :: suf) (hpass : ∀ z ∈ pre, z.catchType ≠ 0 ∧ ∃ nm : String, Cond.classLink mt.1.cls z.catchType nm ∈ ax_W ∧ (E, nm) ∈ axNc) (hx : covers x pc = true) (h0x : x.catchType ≠ 0) (hlk : Cond.classLink mt.1.cls x.catchType E ∈ ax_W) (hcs : Cond.castable E E ∈ axNw)
    (hd : (∃ i' : Fin 4, (i' : Nat) = i ∧ len = 1 ∧ decode mt.2.1 x.handlerPc = .ok (.astore_n i', 1)) ∨ (len = 2 ∧ decode mt.2.1 x.handlerPc = .ok (.astore i, 2))) (hi : i < mt.2.2.1) (hc1 : ax_c1 ls i = true) (hls : ls.set i none = ls')
    (h : ax_Ex G mt' d 0 (ax_args vs ++ List.replicate k none) [] M (.inr E) M1) (k' : ax_Ex G mt (d + 1) (x.handlerPc + len) ls' [] M1 o M') :
    ax_Ex G mt (d + 1) pc ls (vs.reverse ++ rest) M o M' := by
  intro g hos hol
  have hvs : ax_oS vs := fun v hv => hos v (List.mem_append.mpr (Or.inl (List.mem_reverse.mpr hv)))
  have hM := ax_met (M := M) K hlen g hvs (fun ov' e => by cases e) h
  obtain ⟨⟨g1, hv1, s1, s2⟩, -⟩ := h g ax_oS_nil (ax_args_ok hvs k)
  obtain ⟨⟨g2, hv2, s3, s4⟩, hk⟩ := k' g1 ax_oS_nil (hls ▸ ax_oL_setN hol)
  refine ⟨⟨g2, hv2, Nat.le_trans s1 s3, Nat.le_trans s2 s4⟩, fun p e R s m args below meth c Q n1 n2 H locs cells slots lc C KS h0 hd' hl hc hs e1 e2 hR hS hL hF => ?_⟩
  obtain ⟨b1, b2⟩ := ax_sub1 s1 s3 e1 hc
  obtain ⟨b3, b4⟩ := ax_sub1 s2 s4 e2 hs
  have hts := C.2.2.2.2.2.2.1
  refine ax_after (ca p e R s m args below meth c H locs cells slots lc hM C KS h0 hd' hl b1 b3 hR hS (hL.1.trans C.2.2.1.symm)) hS (fun ov' H1 locs1 ho hR1 hS1 => by cases ho) (fun E' q ce H1 locs1 ho hR1 hS1 hce hcv hcl => ?_)
  cases ho
  refine vx_catch (own := mt.1.cls) (name := E) C.2.2.2.2.2.1 pre x suf (C.2.2.2.2.2.2.2.2.trans htb) (fun z hz => ?_) hx h0x (hts _ hlk) (va_Nw.use rfl (KS.2.2.2.2.2.2.2.2.2.2.2.2.1 _ hcs)) hce hcv hcl ?_
  · obtain ⟨z1, nm, z2, z3⟩ := hpass z hz
    exact Or.inr ⟨z1, nm, hts _ z2, KS.2.2.2.2.2.2.2.2.2.2.2.2.2.1 _ z3⟩
  · have go : ∀ lc' : Array Slot, lv_has lc' mt.2.2.1 (ax_lp G 0 ls') → W p (gL G) e R s m args below meth c H1 locs1 (cells + (mSz M1 - mSz M)) (slots + (mSl M1 - mSl M)) Q (F0 m (x.handlerPc + len) lc' []) := fun lc' hL' =>
      hk p e R s m args below meth c Q n1 n2 H1 locs1 (cells + (mSz M1 - mSz M)) (slots + (mSl M1 - mSl M)) lc' C KS h0 hd' hl hc hs b2 b4 hR1 hS1 hL' hF
    rcases hd with ⟨i', rfl, rfl, hd⟩ | ⟨rfl, hd⟩
    · exact lv_astore_n C.1 C.2.1 hd rfl hL hi rfl (fun lc' h => go lc' (hls ▸ ax_has_sub h (ax_st0 hc1)))
    · exact lv_astore C.1 C.2.1 hd hL hi rfl (fun lc' h => go lc' (hls ▸ ax_has_sub h (ax_st0 hc1)))
/-- an inherited method -/
theorem ax_caU {C0 owner : String} {x : MethodName} {a : Nat} {as : List ax_V} (hd : decode mt.2.1 pc = .ok (.invokevirtual idx, 3)) (K : ax_Kn mt' n) (hh : mt'.2.2.2.2 = []) (hn : as.length = n) (hx : mt'.1 = ⟨owner, x.name, x.desc⟩) (hl : Cond.methodLink mt.1.cls idx x ∈ ax_W) (hsm : Cond.sameMethod x.cls owner x.name x.desc ∈ ax_W) (hse : Cond.selects C0 x mt'.1 ∈ ax_W) (hi : Cond.instanceMethod mt'.1 ∈ ax_W) (hin : Cond.initialized mt'.1.cls ∈ ax_W) (hrc : ax_rc G M a C0) (hr : rest.length ≤ 4) : ax_Ca G mt mt' d pc (vR a :: as) rest M o M1 := by
  intro p e R s m args below meth c H locs cells slots lc hM C KS h0 hd' hlo hc hs hR hS hsz
  have e1 : ax_cw mt' = Cond.code mt'.1 mt'.2.1 mt'.2.2.1 mt'.2.2.2.1 := if_pos hh
  have hts := C.2.2.2.2.2.2.1
  obtain ⟨hpl, hcw, hmh, hpn, hml⟩ := K
  rw [ax_stkV]
  refine vx_runU (x := x) (cc := mt.2.1) (nL := mt.2.2.1) (bytes := mt'.2.1) (maxL := mt'.2.2.1) (ret := mt'.2.2.2.1) (index := idx) (n := n) (own := mt.1.cls) (C := C0) (owner := owner) (Ts := ax_W) ⟨C.1, C.2.1, C.2.2.1, C.2.2.2.2.2.1, hts⟩ hM ?_ ⟨ax_blind, hrc s H locs KS hR hS, fun U hU hW => ax_into KS h0 hR hS hU hW⟩ rfl (by rw [List.length_map]; exact hn) (hsz.trans C.2.2.1) rfl (ax_rest hr) hd ⟨hc, hs⟩
  have ho : mt'.1.cls = owner := by rw [hx]
  have hdd : mt'.1.desc = x.desc := by rw [hx]
  refine va_cwU (Ts := ax_W) n hts ?_ (by rw [e1]) rfl rfl hx ⟨by rw [← ho]; exact hmh.1, by rw [← ho]; exact hmh.2, by rw [← hdd]; exact hpn⟩ ⟨hd', ax_loc hml hlo⟩
  intro w hw
  have h1 : w ∈ ax_W := by
    rcases List.mem_append.mp hw with hw | hw
    · rcases List.mem_cons.mp hw with rfl | hw
      · exact hl
      · rcases List.mem_cons.mp hw with rfl | hw
        · exact hsm
        · rcases List.mem_cons.mp hw with rfl | hw
          · exact hse
          · rcases List.mem_cons.mp hw with rfl | hw
            · exact hi
            · rcases List.mem_cons.mp hw with rfl | hw
              · exact hin
              · cases hw
    · exact (ax_gin hcw w hw).1
  exact ⟨h1, good_of_word (ax_Wg h1)⟩
/-- quotients and remainders, cut towards 0 -/
theorem ax_divT {x y : Int} (hx : ax_in x) (hy : ax_in y) : (Int32.ofInt x / Int32.ofInt y).toInt = wr (x.tdiv y) := by
  rw [Int32.toInt_div, ax_toInt hx, ax_toInt hy]
  unfold wr
  rw [Int.bmod_def]
  have e : ((2 ^ 32 : Nat) : Int) = 4294967296 := by decide
  rw [e]
  omega
theorem ax_inT {x y : Int} (hx : ax_in x) (hy : ax_in y) : ax_in (x.tmod y) := by
  by_cases h : y = 0
  · rw [h, Int.tmod_zero]; exact hx
  · have h1 : (x.tmod y).natAbs < y.natAbs := by
      rw [Int.natAbs_tmod]
      exact Nat.mod_lt _ (by omega)
    unfold ax_in at *
    omega
theorem ax_remT {x y : Int} (hx : ax_in x) (hy : ax_in y) : (Int32.ofInt x - Int32.ofInt x / Int32.ofInt y * Int32.ofInt y).toInt = x.tmod y := by
  have h1 : Int32.ofInt x - Int32.ofInt x / Int32.ofInt y * Int32.ofInt y = Int32.ofInt (x.tmod y) := by
    have h2 : Int32.ofInt x / Int32.ofInt y = Int32.ofInt (x.tdiv y) := by
      rw [← ax_ofTo (Int32.ofInt x / Int32.ofInt y), ax_divT hx hy, ax_wr]
    rw [h2, ← Int32.ofInt_mul, ← Int32.ofInt_sub]
    congr 1
    have := Int.tdiv_mul_add_tmod x y
    omega
  rw [h1, ax_toInt (ax_inT hx hy)]
theorem x_idivT {x y : Int} (hd : decode mt.2.1 pc = .ok (.idiv, 1)) (hy : ¬ y = 0) (k : ax_Ex G mt d (pc + 1) ls (vI (wr (x.tdiv y)) :: st) M o M') : ax_Ex G mt d pc ls (vI y :: vI x :: st) M o M' :=
  ax_know (fun _ h1 _ => x_idiv hd hy (ax_divT (ax_oS_hd (ax_oS_tl h1)) (ax_oS_hd h1)) k)
theorem x_iremT {x y : Int} (hd : decode mt.2.1 pc = .ok (.irem, 1)) (hy : ¬ y = 0) (k : ax_Ex G mt d (pc + 1) ls (vI (x.tmod y) :: st) M o M') : ax_Ex G mt d pc ls (vI y :: vI x :: st) M o M' :=
  ax_know (fun _ h1 _ => x_irem hd hy (ax_remT (ax_oS_hd (ax_oS_tl h1)) (ax_oS_hd h1)) k)
end AXV
