/-! more rows: throws, null, switches, doubles, copies, phases -/
section AXT
variable {p : Program} {l : Launch} {e : Env} {R : Room} {s : State} {m : MethodId} {args : Array Value} {below : List Frame} {meth : Method} {c : Code} {H : Heap} {locs : List Loc} {cells slots : Nat} {Q : State → Prop} {ls : Array Slot} {rest : List Value}
/-- 'new E(text)': starts as the given row vx_makeS -/
theorem ax_makeS {cc : ByteArray} {pc : Nat} (hexec : p.tables.exec = Jvm.exec) (hb : c.code = cc) (hl : l.stackTraces = false) {own cls text : String} {names : List String} {ik is ic sa : Nat} {A : Nat → Prop}
    (hown : s.vm.findClass own = some m.cls) (hcls : Bundle.fit cls = true) (hnames : ∀ n ∈ names, Bundle.fit n = true)
    (hk : (Cond.classLink own ik cls).before args s = true) (hini : (Cond.initialized cls).before args s = true) (hstr : vk_R own is text sa s) (hat : ∀ w ∈ vx_atS own ic cls names, w.before args s = true)
    (hgood : ∀ w ∈ Cond.classLink own ik cls :: Cond.initialized cls :: vx_atS own ic cls names, vx_ot w = true)
    (hU : vx_Zq Bundle.tN "UNASSIGNED_STACK" Bundle.steD A s s.heap) (hN : vx_Zq Bundle.tN "SUPPRESSED_SENTINEL" Bundle.listD A s s.heap) (hS : va_S A s.heap H locs) (hsize : ls.size = c.maxLocals)
    (d0 : decode cc pc = .ok (.new ik, 3)) (d3 : decode cc (pc + 3) = .ok (.dup, 1)) (d4 : decode cc (pc + 4) = .ok (.ldc is, 2)) (d6 : decode cc (pc + 6) = .ok (.invokespecial ic, 3))
    (hRframes : names.length + 3 < R.frames) (hRlocals : (rest.map fun v => v.category).sum + (13 * (names.length + 1) + 43) ≤ R.locals) (hRcells : cells + 1 ≤ R.cells) (hRslots : slots + 6 ≤ R.slots)
    (kk : ∀ (H1 : Heap) (ce : Cell), H1.size = H.size + 1 → (∀ q, q < H.size → H1[q]? = H[q]?) → H1[H.size]? = some ce → s.vm.findClass cls = some ce.cls → ce.vm = .none → W p l e R s m args below meth c H1 locs (cells + 1) (slots + 6) Q (F0 m (pc + 9) ls (.ref H.size :: rest))) :
    W p l e R s m args below meth c H locs cells slots Q (F0 m pc ls rest) := by
  intro T hT X
  subst hT
  have htr : e.platform.stackTraces = false := (show e.platform.stackTraces = l.stackTraces by rw [X.admits.platform]).trans hl
  have Y := vx_rebase X (R' := { frames := R.frames, locals := R.locals, cells := 1, slots := 6 }) (Nat.le_refl _) (Nat.le_refl _) hRcells hRslots
  obtain ⟨s', hA'⟩ : ∃ z, z = (T.setVm s.vm).setFrames (.invoking m args :: below) := ⟨_, rfl⟩
  rw [← hA'] at Y
  have hvm : s'.vm = s.vm := by rw [hA']; rfl
  have hhp : s'.heap = T.heap := by rw [hA']; rfl
  have hW0 : s.WarmedH s'.vm := by rw [hvm]; exact State.WarmedH.refl s
  have hat' : ∀ w ∈ vx_atS own ic cls names, w.before args s' = true := fun w hw => vx_ot_at hW0 hvm.symm (hgood w (List.mem_cons_of_mem _ (List.mem_cons_of_mem _ hw))) (hat w hw)
  have hk' : (Cond.classLink own ik cls).before args s' = true := vx_ot_at hW0 hvm.symm (hgood _ List.mem_cons_self) hk
  have hini' : (Cond.initialized cls).before args s' = true := vx_ot_at hW0 hvm.symm (hgood _ (List.mem_cons_of_mem _ List.mem_cons_self)) hini
  have hU' : vx_Zq Bundle.tN "UNASSIGNED_STACK" Bundle.steD A s' s'.heap := by rw [hhp]; exact vx_Zq.moved hW0.alike (hU.kept hS.2.1)
  have hN' : vx_Zq Bundle.tN "SUPPRESSED_SENTINEL" Bundle.listD A s' s'.heap := by rw [hhp]; exact vx_Zq.moved hW0.alike (hN.kept hS.2.1)
  have h : ∀ w ∈ Bundle.ownAtoms own ic cls names, w.before args s' = true := vx_own hat' (vx_isRefq hU'.1) (vx_isRefq hN'.1) hU'.2.word hN'.2.word
  have hown' : s'.vm.findClass own = some m.cls := by rw [hvm]; exact hown
  have hins : (Cond.instantiable cls 6).before args s' = true := h _ (by simp [Bundle.ownAtoms])
  obtain ⟨vm₁, cX, kX, hfX, hkX, -, -, X₁, st1⟩ := Y.newCold hexec (own := own) (C := cls) (index := ik) (n := 6) hown' hk' hins hini'
    (g := F0 m pc ls rest) rfl (by rw [hb]; exact d0) (Nat.le_refl _) (Nat.le_refl _)
  generalize hT1 : (T.setVm vm₁).pushCell { cls := cX, slots := kX.instanceTypes.map defaultValue, vm := .none } = T1 at X₁ st1
  have hcat : (Value.ref T.heap.size).category = 1 := rfl
  have hcellA : T1.heap[T.heap.size]? = some (freshCell cX kX) := by rw [← hT1]; exact State.heap_pushCell_size _ _
  have d3' : decode c.code (pc + 3) = .ok (.dup, 1) := by rw [hb]; exact d3
  have d4' : decode c.code (pc + 4) = .ok (.ldc is, 2) := by rw [hb]; exact d4
  have hstr' : vk_R own is text sa s' := vk_R.warm hW0 hstr
  obtain ⟨V, ce, L, Z, hL, hlt, hcl9, hvm9, st⟩ := vx_ctorMadeS X₁ hexec htr (own := own) (cls := cls) (names := names) (ic := ic) hown' hcls hnames h (fun x hx => nomatch hx) hfX hkX hcellA (by rw [hhp]; exact Nat.le_refl _) (msg := .ref sa) rfl
    (g := { method := m, pc := pc + 6, locals := ls, stack := .ref sa :: .ref T.heap.size :: .ref T.heap.size :: rest, locked := none }) rfl hsize (rest := rest) rfl
    (by rw [hb]; exact d6) hRframes (by simp only [List.map_cons, List.sum_cons, hcat]; omega)
  have Z0 := Stand.forget (locs := []) Z (fun y hy => by rw [hL y hy, hhp]; exact Nat.le_refl _)
  obtain ⟨f1, f2⟩ := vx_frame Z0.same
  rw [hhp] at f1 f2
  have hcid : s.vm.findClass cls = some ce.cls := by
    rw [hcl9]
    rw [hvm] at hfX
    exact hfX
  have hh : (V.setCell T.heap.size ce).heap[T.heap.size]? = some ce := heapAt_setCell_self (s := V) ce hlt
  subst hA'
  have X5 := vx_back9 X Y Z0
  have X6 : Stand p l e R s m args below meth c (V.setCell T.heap.size ce) locs (cells + 1) (slots + 6) := { X5 with same := X5.same.mono (by omega) (by omega) }
  have hsz1 : (V.setCell T.heap.size ce).heap.size = T.heap.size + 1 := by
    have h1 := Z0.same.2.2.1
    have h2 := (Array.getElem?_eq_some_iff.mp hh).1
    have h3 : ({ (V.setCell T.heap.size ce) with vm := ((T.setVm s.vm).setFrames (.invoking m args :: below)).vm } : State).heap.size ≤ T.heap.size + 1 := h1
    have h4 : (V.setCell T.heap.size ce).heap.size ≤ T.heap.size + 1 := h3
    omega
  obtain ⟨t, a1, b1⟩ := kk (V.setCell T.heap.size ce).heap ce hsz1 (fun q hq => f2 q hq (fun z hz => nomatch hz)) hh hcid hvm9 _ rfl X6
  refine ⟨t, st1 _ ?_, b1⟩
  show Steps p.tables e below (T1.setTop { method := m, pc := pc + 3, locals := ls, stack := .ref T.heap.size :: rest, locked := none }) _
  jvm_step X₁.here [X₁.here.top, hexec, d3', Value.category]
  exact X₁.ldcString hexec (own := own) (text := text) (index := is) (a := sa) hown' hstr'.1 hstr'.2
    (g := { method := m, pc := pc + 4, locals := ls, stack := .ref T.heap.size :: .ref T.heap.size :: rest, locked := none }) rfl d4' _ (st _ a1)
end AXT
section AXU
variable {G : ax_G} {mt : ax_T} {d pc pc' : Nat} {ls ls' : List (Option ax_V)} {st st' rest : List ax_V} {M M' M1 : ax_M} {o : Option ax_V ⊕ String} {t n sl : Nat}
/-- what makes an exception with a text -/
def ax_Tw (own : String) (ik is ic : Nat) (cls text : String) (names : List String) : Prop :=
  Bundle.fit cls = true ∧ (∀ n ∈ names, Bundle.fit n = true) ∧ Cond.classLink own ik cls ∈ ax_W ∧ Cond.initialized cls ∈ ax_W ∧ (own, is, text) ∈ axKs ∧ (∀ w ∈ vx_atS own ic cls names, w ∈ ax_W ∨ w ∈ axNw) ∧ (∀ w ∈ Cond.classLink own ik cls :: Cond.initialized cls :: vx_atS own ic cls names, vx_ot w = true) ∧ names.length ≤ 2
/-- throw new E(text), of a method without handlers -/
theorem x_throw {ik is ic ci : Nat} {cls text : String} {names : List String} (hw : ax_Tw mt.1.cls ik is ic cls text names) (hno : mt.2.2.2.2 = []) (hc : 13 ≤ ci ∧ ci < 16) (hcls : axR ci = cls) (hG : gPh G 243 = true) (hfl : (gL G).stackTraces = false)
    (d0 : decode mt.2.1 pc = .ok (.new ik, 3)) (d3 : decode mt.2.1 (pc + 3) = .ok (.dup, 1)) (d4 : decode mt.2.1 (pc + 4) = .ok (.ldc is, 2)) (d6 : decode mt.2.1 (pc + 6) = .ok (.invokespecial ic, 3)) (d9 : decode mt.2.1 (pc + 9) = .ok (.athrow, 1)) (hst : st.length ≤ 4) (h6 : 6 ≤ d) :
    ax_Ex G mt d pc ls st M (.inr cls) (mAl M ci 0 6) := by
  intro g hos hol
  have z1 : mSz (mAl M ci 0 6) = mSz M + 1 := rfl
  have z2 : mSl (mAl M ci 0 6) = mSl M + 6 := rfl
  refine ⟨⟨ax_gA g, fun v h => (by cases h), by rw [z1]; omega, by rw [z2]; omega⟩, fun p e R s m args below meth c Q n1 n2 H locs cells slots lc C KS h0 hd' hl hc' hs e1 e2 hR hS hL hF => ?_⟩
  obtain ⟨w1, w2, w3, w4, w5, w6, w7, w8⟩ := hw
  have hts := C.2.2.2.2.2.2.1
  obtain ⟨a, ha⟩ := KS.2.2.2.2.2.2.2.2.1 _ w5
  rw [z1] at e1
  rw [z2] at e2
  refine ax_makeS (A := ax_A G) C.1 C.2.1 hfl C.2.2.2.2.2.1 w1 w2 (hts _ w3) (hts _ w4) ha (fun w hw => ?_) w7 KS.2.2.2.2.2.2.1 KS.2.2.2.2.2.2.2.1 hS (hL.1.trans C.2.2.1.symm) d0 d3 d4 d6 (by omega) ?_ (by omega) (by omega) (fun H1 ce z o1 hce hcl hvm => ?_)
  · rcases w6 w hw with h | h
    · exact hts _ h
    · exact va_tabs (by
        have := w7 w (List.mem_cons_of_mem _ (List.mem_cons_of_mem _ hw))
        simp only [vx_ot, Bool.or_eq_true] at this
        rcases this with h1 | h1
        · exact h1
        · rcases good_of_word h1 with h2 | ⟨ty, rfl⟩
          · exact (Bool.and_eq_true_iff.mp h2).1
          · exact absurd (List.mem_filter.mp h).2 (by simp [axNest])) rfl (KS.2.2.2.2.2.2.2.2.2.2.2.2.1 _ h)
  · have h1 := ax_sum (l := st.map (ax_cv G))
    rw [List.length_map] at h1
    omega
  · have hz : axB ≤ axC + mSz M := by
      have := (hR.2.1 243 hG).2
      show 244 ≤ 150 + mSz M
      have h2 : 243 < 150 + mSz M := this
      omega
    have hR1 : ax_Rel G (mAl M ci 0 6) H1 := by
      refine hR.alloc ?_ z o1
      refine ax_atObj (t := ci) (n := 0) (ax_shA (fun h => by omega)) (by omega) ?_
      have hfc := (KS.1.1 ci _ (axCl_at (by omega))).2.1
      rw [ax_adN, ← hR.1]
      refine ⟨ce, hce, Option.some.inj (hcl.symm.trans (by rw [← hcls]; exact hfc)), hvm, fun j hj => ?_⟩
      exfalso
      have : axN ci = 0 := by
        obtain ⟨h1, h2⟩ := hc
        rcases (show ci = 13 ∨ ci = 14 ∨ ci = 15 by omega) with rfl | rfl | rfl <;> rfl
      omega
    refine vx_athrow C.1 C.2.1 d9 ?_
    obtain ⟨Qc, XC, rfl, hX⟩ := hF
    have hS1 := ax_vSA hS z o1
    refine vx_out ?_ C.2.2.2.2.1 hce hvm hcl (fun t ht hA => hX t (by rw [ht]; exact hR1) (ax_vF hS1 ht) hA) hS1.2.2 (by omega) (by omega)
    rw [C.2.2.2.2.2.2.2.2, hno]
    intro x hx
    cases hx
/-- the constructor of Object -/
theorem x_objInit {idx k : Nat} (hd : decode mt.2.1 pc = .ok (.invokespecial idx, 3)) (hl : Cond.methodLink mt.1.cls idx Lib.objectInit ∈ ax_W) (hin : Cond.instanceMethod Lib.objectInit ∈ ax_W) (hcd : Cond.code Lib.objectInit ⟨#[0xb1]⟩ 1 none ∈ ax_W) (hst : st.length ≤ 4) (h1 : 1 ≤ d)
    (k' : ax_Ex G mt d (pc + 3) ls st M o M') : ax_Ex G mt d pc ls (vR k :: st) M o M' := by
  intro g hos hol
  obtain ⟨k1, k2⟩ := k' g (ax_oS_tl hos) hol
  refine ⟨k1, fun p e R s m args below meth c Q n1 n2 H locs cells slots lc C KS h0 hd' hl' hc' hs e1 e2 hR hS hL hF => ?_⟩
  have hts := C.2.2.2.2.2.2.1
  refine W.objInit C.1 C.2.1 C.2.2.2.2.2.1 (hts _ hl) (hts _ hin) (hts _ hcd) rfl (hL.1.trans C.2.2.1.symm) rfl hd (by omega) ?_ (k2 p e R s m args below meth c Q n1 n2 H locs cells slots lc C KS h0 hd' hl' hc' hs e1 e2 hR hS hL hF)
  have h1 := ax_sum (l := st.map (ax_cv G))
  rw [List.length_map] at h1
  show 2 * 0 + _ + 12 ≤ R.locals
  omega
/-- null -/
theorem x_aload_nN {i : Fin 4} (hd : decode mt.2.1 pc = .ok (.aload_n i, 1)) (hi : ls[(i : Nat)]? = some (some vN)) (k : ax_Ex G mt d (pc + 1) ls (vN :: st) M o M') : ax_Ex G mt d pc ls st M o M' :=
  ax_pure (fun hs hl _ => ⟨ax_oS_cons ax_okR hs, hl⟩) (fun C _ _ _ hL _ _ _ k => lv_aload_nN C.1 C.2.1 hd rfl (ax_ld hL hi) (k _ hL)) k
theorem x_astore_nN {i : Fin 4} {ls' : List (Option ax_V)} (hd : decode mt.2.1 pc = .ok (.astore_n i, 1)) (hn : (i : Nat) < mt.2.2.1) (hc : ax_c1 ls (i : Nat) = true) (hl : ls.set (i : Nat) (some vN) = ls') (k : ax_Ex G mt d (pc + 1) ls' st M o M') : ax_Ex G mt d pc ls (vN :: st) M o M' :=
  ax_pure (fun hs hl2 _ => ⟨ax_oS_tl hs, hl ▸ ax_oL_set hl2 ax_okR⟩) (fun C _ _ _ hL _ _ _ k => lv_astore_nN C.1 C.2.1 hd rfl hL hn rfl (fun lc' h => k lc' (hl ▸ ax_has_sub h (ax_st1 hc)))) k
theorem x_ifnonnull {a : Nat} {off : Int} {tgt : Nat} (hd : decode mt.2.1 pc = .ok (.ifnonnull off, 3)) (ht : (pc : Int) + off = (tgt : Int)) (k : ax_Ex G mt d tgt ls st M o M') : ax_Ex G mt d pc ls (vR a :: st) M o M' :=
  ax_pure (fun hs hl _ => ⟨ax_oS_tl hs, hl⟩) (fun C _ _ _ hL _ _ _ k => lv_ifnonnull C.1 C.2.1 hd ht (k _ hL)) k
theorem x_ifnonnullN {off : Int} (hd : decode mt.2.1 pc = .ok (.ifnonnull off, 3)) (k : ax_Ex G mt d (pc + 3) ls st M o M') : ax_Ex G mt d pc ls (vN :: st) M o M' :=
  ax_pure (fun hs hl _ => ⟨ax_oS_tl hs, hl⟩) (fun C _ _ _ hL _ _ _ k => lv_ifnonnullN C.1 C.2.1 hd (k _ hL)) k
theorem x_ifnull {a : Nat} {off : Int} (hd : decode mt.2.1 pc = .ok (.ifnull off, 3)) (k : ax_Ex G mt d (pc + 3) ls st M o M') : ax_Ex G mt d pc ls (vR a :: st) M o M' :=
  ax_pure (fun hs hl _ => ⟨ax_oS_tl hs, hl⟩) (fun C _ _ _ hL _ _ _ k => lv_ifnull C.1 C.2.1 hd (k _ hL)) k
theorem x_ifnullN {off : Int} {tgt : Nat} (hd : decode mt.2.1 pc = .ok (.ifnull off, 3)) (ht : (pc : Int) + off = (tgt : Int)) (k : ax_Ex G mt d tgt ls st M o M') : ax_Ex G mt d pc ls (vN :: st) M o M' :=
  ax_pure (fun hs hl _ => ⟨ax_oS_tl hs, hl⟩) (fun C _ _ _ hL _ _ _ k => lv_ifnullN C.1 C.2.1 hd ht (k _ hL)) k
/-- two kinds of tokens -/
theorem ax_adK {G : ax_G} {s : State} (KS : ax_KS G s) {a b : Nat} (ha : 10 ≤ a ∧ a < 52) (hb : 10 ≤ b ∧ b < 52) : (some (ax_ad G a) = some (ax_ad G b)) ↔ a = b := by
  constructor
  · intro h
    have h1 : ax_ad G a = ax_ad G b := Option.some.inj h
    unfold ax_ad at h1
    rw [if_pos (show a < axC by show a < 150; omega), if_pos (show b < axC by show b < 150; omega)] at h1
    exact KS.2.2.2.2.2.2.2.2.2.2.2.1 a b ha.1 ha.2 hb.1 hb.2 h1
  · intro h; rw [h]
theorem x_acmpeq {a b : Nat} {off : Int} {tgt : Nat} (hd : decode mt.2.1 pc = .ok (.if_acmp .eq off, 3)) (ht : (pc : Int) + off = (tgt : Int)) (ha : 10 ≤ a ∧ a < 52) (hb : 10 ≤ b ∧ b < 52) (kt : a = b → ax_Ex G mt d tgt ls st M o M') (kf : ¬ a = b → ax_Ex G mt d (pc + 3) ls st M o M') : ax_Ex G mt d pc ls (vR b :: vR a :: st) M o M' := by
  by_cases h : a = b
  · exact ax_pure (fun hs hl _ => ⟨ax_oS_tl (ax_oS_tl hs), hl⟩) (fun C KS _ _ hL _ _ _ k => lv_acmp_eq (rx := some (ax_ad G a)) (ry := some (ax_ad G b)) C.1 C.2.1 hd ht (fun _ => k _ hL) (fun q => absurd ((ax_adK KS ha hb).mpr h) q)) (kt h)
  · exact ax_pure (fun hs hl _ => ⟨ax_oS_tl (ax_oS_tl hs), hl⟩) (fun C KS _ _ hL _ _ _ k => lv_acmp_eq (rx := some (ax_ad G a)) (ry := some (ax_ad G b)) C.1 C.2.1 hd ht (fun q => absurd ((ax_adK KS ha hb).mp q) h) (fun _ => k _ hL)) (kf h)
theorem x_acmpne {a b : Nat} {off : Int} {tgt : Nat} (hd : decode mt.2.1 pc = .ok (.if_acmp .ne off, 3)) (ht : (pc : Int) + off = (tgt : Int)) (ha : 10 ≤ a ∧ a < 52) (hb : 10 ≤ b ∧ b < 52) (kt : ¬ a = b → ax_Ex G mt d tgt ls st M o M') (kf : a = b → ax_Ex G mt d (pc + 3) ls st M o M') : ax_Ex G mt d pc ls (vR b :: vR a :: st) M o M' := by
  by_cases h : a = b
  · exact ax_pure (fun hs hl _ => ⟨ax_oS_tl (ax_oS_tl hs), hl⟩) (fun C KS _ _ hL _ _ _ k => lv_acmp_ne (rx := some (ax_ad G a)) (ry := some (ax_ad G b)) C.1 C.2.1 hd ht (fun q => absurd ((ax_adK KS ha hb).mpr h) q) (fun _ => k _ hL)) (kf h)
  · exact ax_pure (fun hs hl _ => ⟨ax_oS_tl (ax_oS_tl hs), hl⟩) (fun C KS _ _ hL _ _ _ k => lv_acmp_ne (rx := some (ax_ad G a)) (ry := some (ax_ad G b)) C.1 C.2.1 hd ht (fun _ => k _ hL) (fun q => absurd ((ax_adK KS ha hb).mp q) h)) (kt h)
/-- longs and doubles -/
theorem x_lcmp {x y : Int64} {z : Int} (hd : decode mt.2.1 pc = .ok (.lcmp, 1)) (hz : (lg_cmp x y).toInt = z) (k : ax_Ex G mt d (pc + 1) ls (vI z :: st) M o M') : ax_Ex G mt d pc ls (vL y :: vL x :: st) M o M' :=
  ax_pure (fun hs hl _ => ⟨ax_oS_cons (ax_okI (hz ▸ ax_inOf _)) (ax_oS_tl (ax_oS_tl hs)), hl⟩) (fun C _ _ _ hL _ _ _ k => W.lcmp C.1 C.2.1 hd (by
    have h := k _ hL
    rw [← hz] at h
    simpa only [List.map_cons, ax_cv, ax_ofTo] using h)) k
theorem x_ldc2 {idx : Nat} {v : Int64} (hd : decode mt.2.1 pc = .ok (.ldc2_w idx, 3)) (hw : Cond.constantLong mt.1.cls idx v ∈ ax_W) (k : ax_Ex G mt d (pc + 3) ls (vL v :: st) M o M') : ax_Ex G mt d pc ls st M o M' :=
  ax_pure (fun hs hl _ => ⟨ax_oS_cons ax_okL hs, hl⟩) (fun C _ _ _ hL _ _ _ k => lv_ldc2 C.1 C.2.1 C.2.2.2.2.2.1 (C.2.2.2.2.2.2.1 _ hw) hd (k _ hL)) k
theorem x_dconst0 (hd : decode mt.2.1 pc = .ok (.dconst 0, 1)) (k : ax_Ex G mt d (pc + 1) ls (vD 0 :: st) M o M') : ax_Ex G mt d pc ls st M o M' :=
  ax_pure (fun hs hl _ => ⟨ax_oS_cons ax_okD hs, hl⟩) (fun C _ _ _ hL _ _ _ k => lv_dconst0 C.1 C.2.1 hd (k _ hL)) k
theorem x_i2d {x : Int} (hd : decode mt.2.1 pc = .ok (.i2d, 1)) (k : ax_Ex G mt d (pc + 1) ls (vD (FP.i2d (Int32.ofInt x)) :: st) M o M') : ax_Ex G mt d pc ls (vI x :: st) M o M' :=
  ax_pure (fun hs hl _ => ⟨ax_oS_cons ax_okD (ax_oS_tl hs), hl⟩) (fun C _ _ _ hL _ _ _ k => lv_i2d C.1 C.2.1 hd (k _ hL)) k
theorem x_ddiv {x y : UInt64} (hd : decode mt.2.1 pc = .ok (.ddiv, 1)) (hne : vf_n64 (FP.ddiv x y)) (k : ax_Ex G mt d (pc + 1) ls (vD (FP.ddiv x y) :: st) M o M') : ax_Ex G mt d pc ls (vD y :: vD x :: st) M o M' :=
  ax_pure (fun hs hl _ => ⟨ax_oS_cons ax_okD (ax_oS_tl (ax_oS_tl hs)), hl⟩) (fun C _ _ _ hL _ _ _ k => lv_ddiv C.1 C.2.1 hd hne (k _ hL)) k
theorem x_dcmp {x y : UInt64} {op : CmpOp} {z : Int} (hd : decode mt.2.1 pc = .ok (.dcmp op, 1)) (hz : (Op.cmpValue (FP.dcmp x y) op).toInt = z) (k : ax_Ex G mt d (pc + 1) ls (vI z :: st) M o M') : ax_Ex G mt d pc ls (vD y :: vD x :: st) M o M' :=
  ax_pure (fun hs hl _ => ⟨ax_oS_cons (ax_okI (hz ▸ ax_inOf _)) (ax_oS_tl (ax_oS_tl hs)), hl⟩) (fun C _ _ _ hL _ _ _ k => lv_dcmp C.1 C.2.1 hd (by
    have h := k _ hL
    rw [← hz] at h
    simpa only [List.map_cons, ax_cv, ax_ofTo] using h)) k
/-- switches -/
theorem x_tabOut {dflt lo hi : Int} {offs : Array Int} {len tgt : Nat} {x : Int} (hd : decode mt.2.1 pc = .ok (.tableswitch dflt lo hi offs, len)) (h : x < lo ∨ hi < x) (ht : (pc : Int) + dflt = (tgt : Int)) (k : ax_Ex G mt d tgt ls st M o M') : ax_Ex G mt d pc ls (vI x :: st) M o M' :=
  ax_pure (fun hs hl _ => ⟨ax_oS_tl hs, hl⟩) (fun C _ _ _ hL hos _ _ k => lv_tableOut C.1 C.2.1 hd (by rw [ax_toInt (ax_oS_hd hos)]; exact h) ht (k _ hL)) k
theorem x_tabIn {dflt lo hi off : Int} {offs : Array Int} {len tgt : Nat} {x : Int} (v : Int) (hd : decode mt.2.1 pc = .ok (.tableswitch dflt lo hi offs, len)) (hv : x = v) (h1 : ¬ v < lo) (h2 : ¬ hi < v) (ho : offs[(v - lo).toNat]? = some off) (ht : (pc : Int) + off = (tgt : Int)) (k : ax_Ex G mt d tgt ls st M o M') : ax_Ex G mt d pc ls (vI x :: st) M o M' :=
  ax_pure (fun hs hl _ => ⟨ax_oS_tl hs, hl⟩) (fun C _ _ _ hL hos _ _ k => by
    have e := ax_toInt (ax_oS_hd hos)
    refine lv_tableIn C.1 C.2.1 hd ?_ ?_ ?_ ht (k _ hL)
    · rw [e, hv]; exact h1
    · rw [e, hv]; exact h2
    · rw [e, hv]; exact ho) k
/-- a row of ints is copied, from its beginning on -/
def mCp (M : ax_M) (a0 a n : Nat) : ax_M := (fun x y => if x = a ∧ y < n then mI M a0 y else mI M x y, M.2)
theorem x_copy {idx a0 a n0 n : Nat} (hd : decode mt.2.1 pc = .ok (.invokestatic idx, 3)) (hk0 : ax_ex G M a0) (hs0 : ax_sh M a0 = (32, n0)) (hk : ax_ex G M a) (hs : ax_sh M a = (32, n)) (hn : n ≤ n0) (hn2 : n < 2147483648) (hl : Cond.methodLink mt.1.cls idx arraycopyName ∈ ax_W) (hnat : Cond.native arraycopyName ∈ ax_W) (hsta : Cond.static arraycopyName ∈ ax_W) (hini : Cond.initialized "java/lang/System" ∈ ax_W) (hst : st.length ≤ 4) (h1 : 1 ≤ d)
    (k' : ax_Ex G mt d (pc + 3) ls st (mCp M a0 a n) o M') : ax_Ex G mt d pc ls (vI (n : Int) :: vI 0 :: vR a :: vI 0 :: vR a0 :: st) M o M' := by
  intro g hos hol
  have g1 : ax_g (mCp M a0 a n) := ⟨fun x y => by
    show ax_in (if x = a ∧ y < n then mI M a0 y else mI M x y)
    split
    · exact g.1 a0 y
    · exact g.1 x y, g.2⟩
  obtain ⟨⟨k0, k00, k1, k2⟩, k3⟩ := k' g1 (ax_oS_tl (ax_oS_tl (ax_oS_tl (ax_oS_tl (ax_oS_tl hos))))) hol
  refine ⟨⟨k0, k00, k1, k2⟩, fun p e R s m args below meth c Q n1 n2 H locs cells slots lc C KS h0 hd' hl' hc' hs' e1 e2 hR hS hL hF => ?_⟩
  have hts := C.2.2.2.2.2.2.1
  obtain ⟨hka, -, hat0⟩ := hR.got hk0
  obtain ⟨hkb, -, hat⟩ := hR.got hk
  have c0 := ax_arrAt (t := 0) hat0 hs0
  have c1 := ax_arrAt (t := 0) hat hs
  obtain ⟨-, kc0, hkc0, cm0, hkk0⟩ := (KS.1.2 0 _ rfl).1 n0 (ax_sv G M 32 a0)
  obtain ⟨-, kc1, hkc1, cm1, hkk1⟩ := (KS.1.2 0 _ rfl).1 n (ax_sv G M 32 a)
  have en := ax_ix (i := (n : Int)) (j := n) (n := n + 1) ⟨by omega, by omega⟩ rfl (by omega)
  intro T hT X
  obtain ⟨vm', X', step⟩ := X.arraycopy C.1 C.2.2.2.2.2.1 (hts _ hl) (hts _ hnat) (hts _ hsta) (hts _ hini) (src := ax_ad G a0) (dst := ax_ad G a) (srcPos := 0) (destPos := 0) (n := Int32.ofInt (n : Int)) (by rw [hT]; exact c0) (by rw [hT]; exact c1)
    (fun _ h => by cases h) (fun _ h => by cases h) (fun h => by cases h) (fun h => by cases h) hkc0 hkc1 hkk0 hkk1 (by rfl) (by decide) (by decide) (fun q => en.1 (Or.inl q))
    (by rw [ax_toInt ⟨by omega, by omega⟩, arrV_size]; show ¬ (0 : Int) + _ > _; omega)
    (by rw [ax_toInt ⟨by omega, by omega⟩, arrV_size]; show ¬ (0 : Int) + _ > _; omega)
    (fun vm₁ _ i hi => by
      rw [en.2] at hi
      have e : (arrV (gCA G 0) n0 (ax_sv G M 32 a0)).slots.getD ((0 : Int32).toNatClampNeg + i) .null = .int (Int32.ofInt (mI M a0 i)) := by
        show (arrV (gCA G 0) n0 (ax_sv G M 32 a0)).slots.getD (0 + i) .null = _
        rw [Array.getD_eq_getD_getElem?, Nat.zero_add, arrV_read _ _ (by omega)]
        rfl
      rw [e]
      exact ⟨rfl, trivial⟩)
    (g := F0 m pc lc (List.map (ax_cv G) (vI (n : Int) :: vI 0 :: vR a :: vI 0 :: vR a0 :: st))) rfl (hL.1.trans C.2.2.1.symm) (rest := st.map (ax_cv G)) rfl (by rw [C.2.1]; exact hd) (by omega) (by
      have h1 := ax_sum (l := st.map (ax_cv G))
      rw [List.length_map] at h1
      have h2 : nativeFrameWords "java/lang/System" "arraycopy" 5 = 7 := by decide
      show 2 * 0 + _ + _ ≤ _
      rw [h2]
      omega)
  have ec : copied (arrV (gCA G 0) n0 (ax_sv G M 32 a0)) (arrV (gCA G 0) n (ax_sv G M 32 a)) 0 0 (Int32.ofInt (n : Int)) = arrV (gCA G 0) n (ax_sv G (mCp M a0 a n) 32 a) := by
    have h1 := va_copied (fun z => Value.int z) (gCA G 0) (gCA G 0) (n0 := n0) (n1 := n) (sp := (0 : Int32).toNatClampNeg) (dp := (0 : Int32).toNatClampNeg) (n := (Int32.ofInt (n : Int)).toNatClampNeg) (fun j => Int32.ofInt (mI M a0 j)) (fun j => Int32.ofInt (mI M a j)) (by rw [en.2]; show 0 + n ≤ n0; omega)
    refine Eq.trans h1 (congrArg (fun f => arrV (gCA G 0) n f) (funext fun j => ?_))
    show Value.int (va_cpy _ _ _ _ _ j) = Value.int (Int32.ofInt (if a = a ∧ j < n then mI M a0 j else mI M a j))
    rw [en.2]
    by_cases hj : j < n
    · rw [if_pos ⟨rfl, hj⟩, pk_cpy_in (by show 0 ≤ j; omega) (by show j < 0 + n; omega)]
      show Value.int (Int32.ofInt (mI M a0 (0 + (j - 0)))) = _
      rw [Nat.zero_add, Nat.sub_zero]
    · rw [if_neg (fun q => hj q.2), pk_cpy_out (Or.inr (by show 0 + n ≤ j; omega))]
  rw [ec] at X' step
  have hlt : ax_ad G a < H.size := (Array.getElem?_eq_some_iff.mp c1).1
  have hheap : ((T.setVm vm').setCell (ax_ad G a) (arrV (gCA G 0) n (ax_sv G (mCp M a0 a n) 32 a))).heap = H.setIfInBounds (ax_ad G a) (arrV (gCA G 0) n (ax_sv G (mCp M a0 a n) 32 a)) := by rw [← hT]; rfl
  have oq : ∀ q : Nat, q ≠ ax_ad G a → (H.setIfInBounds (ax_ad G a) (arrV (gCA G 0) n (ax_sv G (mCp M a0 a n) 32 a)))[q]? = H[q]? := fun q hq => by simp [Array.getElem?_setIfInBounds, Ne.symm hq]
  have hR1 : ax_Rel G (mCp M a0 a n) (H.setIfInBounds (ax_ad G a) (arrV (gCA G 0) n (ax_sv G (mCp M a0 a n) 32 a))) := by
    refine hR.set (M1 := mCp M a0 a n) hkb (ax_atArr (t := 0) (n := n) hs (by simp [Array.getElem?_setIfInBounds, hlt])) (by simp) oq rfl rfl (fun k' hk' t i => ?_) hR.2.2.2
    rcases ax_kdc t i with e | e | e
    · rw [ax_sv0 e, ax_sv0 e]
      show Value.int (Int32.ofInt (if k' = a ∧ i < n then mI M a0 i else mI M k' i)) = _
      rw [if_neg (fun q => hk' q.1)]
    · rw [ax_sv1 e, ax_sv1 e]; rfl
    · rw [ax_sv2 e, ax_sv2 e]; rfl
  obtain ⟨t, a1, b1⟩ := k3 p e R s m args below meth c Q n1 n2 _ _ cells slots lc C KS h0 hd' hl' hc' hs' e1 e2 hR1 ⟨by simp; exact hS.1, fun q g1 g2 => by
      rw [oq q (fun e => g2 (by rw [e]; exact ax_adA hkb))]
      exact hS.2.1 q g1 g2, fun q hq => by
      rcases List.mem_append.mp hq with h | h
      · exact hS.2.2 q h
      · obtain ⟨z, -, hz⟩ := List.mem_map.mp h
        rw [← hz]
        exact ax_adA hkb⟩ hL hF _ hheap X'
  exact ⟨t, step t a1, b1⟩
/-- from now on more cells stand -/
def axPh (G : ax_G) (P : Nat → Bool) : ax_G := (G.1, G.2.1, G.2.2.1, G.2.2.2.1, G.2.2.2.2.1, G.2.2.2.2.2.1, G.2.2.2.2.2.2.1, G.2.2.2.2.2.2.2.1, P)
theorem ax_cvPh {P : Nat → Bool} : ax_cv (axPh G P) = ax_cv G := by
  funext v
  rcases v with n | r | x | x
  · rfl
  · cases r <;> rfl
  · rfl
  · rfl
theorem ax_atPh {P : Nat → Bool} {H : Heap} {k : Nat} : ax_At (axPh G P) M H k = ax_At G M H k := by
  have e1 : ∀ t k, ax_sv (axPh G P) M t k = ax_sv G M t k := by
    intro t k
    funext j
    rcases ax_kdc t j with e | e | e
    · rw [ax_sv0 e, ax_sv0 e]
    · rw [ax_sv1 e, ax_sv1 e]
      cases mR M k j <;> rfl
    · rw [ax_sv2 e, ax_sv2 e]
  unfold ax_At
  rw [e1]
  rfl
theorem ax_lpPh {P : Nat → Bool} : ∀ (l : List (Option ax_V)) (n : Nat), ax_lp (axPh G P) n l = ax_lp G n l
  | [], _ => rfl
  | none :: t, n => ax_lpPh t (n + 1)
  | some v :: t, n => by
    simp only [ax_lp]
    rw [ax_lpPh t (n + 1), ax_cvPh]
theorem x_phase {P : Nat → Bool} (hsub : ∀ k, gPh G k = true → P k = true) (hP : ∀ k, P k = true → gPh G k = true ∨ (axC ≤ k ∧ k < axC + mSz M ∧ ∀ j r, axFR k j = some r → mR M k j = some r)) (k : ax_Ex (axPh G P) mt d pc ls st M o M') : ax_Ex G mt d pc ls st M o M' := by
  intro g hos hol
  obtain ⟨k1, k2⟩ := k g hos hol
  refine ⟨k1, fun p e R s m args below meth c Q n1 n2 H locs cells slots lc C KS h0 hd' hl' hc' hs e1 e2 hR hS hL hF => ?_⟩
  have hR1 : ax_Rel (axPh G P) M H := by
    obtain ⟨r1, r2, r3, r4⟩ := hR
    refine ⟨r1, fun k hk => ?_, fun k a b => by rw [ax_atPh]; exact r3 k a b, fun k hk => ?_⟩
    · rcases hP k hk with h | h
      · exact r2 k h
      · exact ⟨h.1, h.2.1⟩
    · rcases hP k hk with h | h
      · exact r4 k h
      · exact h.2.2
  have h9 := k2 p e R s m args below meth c Q n1 n2 H locs cells slots lc C KS h0 hd' hl' hc' hs e1 e2 hR1 hS (by rw [ax_lpPh]; exact hL) ?_
  · rw [ax_cvPh] at h9
    exact h9
  · have back : ∀ H, ax_Rel (axPh G P) M' H → ax_Rel G M' H := by
      rintro H ⟨r1, r2, r3, r4⟩
      exact ⟨r1, fun k hk => r2 k (hsub k hk), fun k a b => by rw [← ax_atPh (P := P)]; exact r3 k a b, fun k hk => r4 k (hsub k hk)⟩
    cases o with
    | inl ov =>
      intro H1 locs1 lc1 pc1 hR2 hS2 hd2
      rw [ax_cvPh]
      exact hF H1 locs1 lc1 pc1 (back _ hR2) hS2 hd2
    | inr E =>
      obtain ⟨Qc, XC, hQ, hX⟩ := hF
      exact ⟨Qc, XC, hQ, fun t h1 h2 h3 => hX t (back _ h1) h2 h3⟩
end AXU
