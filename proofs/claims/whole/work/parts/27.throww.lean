/-! exceptions with a text by a wide index -/
section AXT
variable {p : Program} {l : Launch} {e : Env} {R : Room} {s : State} {m : MethodId} {args : Array Value} {below : List Frame} {meth : Method} {c : Code} {H : Heap} {locs : List Loc} {cells slots : Nat} {Q : State → Prop} {ls : Array Slot} {rest : List Value}
/-- 'new E(text)': starts as the given row vx_makeS -/
theorem ax_makeSW {cc : ByteArray} {pc : Nat} (hexec : p.tables.exec = Jvm.exec) (hb : c.code = cc) (hl : l.stackTraces = false) {own cls text : String} {names : List String} {ik is ic sa : Nat} {A : Nat → Prop}
    (hown : s.vm.findClass own = some m.cls) (hcls : Bundle.fit cls = true) (hnames : ∀ n ∈ names, Bundle.fit n = true)
    (hk : (Cond.classLink own ik cls).before args s = true) (hini : (Cond.initialized cls).before args s = true) (hstr : vk_R own is text sa s) (hat : ∀ w ∈ vx_atS own ic cls names, w.before args s = true)
    (hgood : ∀ w ∈ Cond.classLink own ik cls :: Cond.initialized cls :: vx_atS own ic cls names, vx_ot w = true)
    (hU : vx_Zq Bundle.tN "UNASSIGNED_STACK" Bundle.steD A s s.heap) (hN : vx_Zq Bundle.tN "SUPPRESSED_SENTINEL" Bundle.listD A s s.heap) (hS : va_S A s.heap H locs) (hsize : ls.size = c.maxLocals)
    (d0 : decode cc pc = .ok (.new ik, 3)) (d3 : decode cc (pc + 3) = .ok (.dup, 1)) (d4 : decode cc (pc + 4) = .ok (.ldc_w is, 3)) (d6 : decode cc (pc + 7) = .ok (.invokespecial ic, 3))
    (hRframes : names.length + 3 < R.frames) (hRlocals : (rest.map fun v => v.category).sum + (13 * (names.length + 1) + 43) ≤ R.locals) (hRcells : cells + 1 ≤ R.cells) (hRslots : slots + 6 ≤ R.slots)
    (kk : ∀ (H1 : Heap) (ce : Cell), H1.size = H.size + 1 → (∀ q, q < H.size → H1[q]? = H[q]?) → H1[H.size]? = some ce → s.vm.findClass cls = some ce.cls → ce.vm = .none → W p l e R s m args below meth c H1 locs (cells + 1) (slots + 6) Q (F0 m (pc + 10) ls (.ref H.size :: rest))) :
    W p l e R s m args below meth c H locs cells slots Q (F0 m pc ls rest) := by
  intro T hT X
  subst hT
  have htr : e.platform.stackTraces = false := (show e.platform.stackTraces = l.stackTraces by rw [X.admits.platform]).trans hl
  have Y := vx_rebase X (R' := { frames := R.frames, locals := R.locals, cells := 1, slots := 6 }) (Nat.le_refl _) (Nat.le_refl _) hRcells hRslots
  obtain ⟨s', hA'⟩ : ∃ z, z = (T.setVm s.vm).setFrames (.invoking m args :: below) := ⟨_, rfl⟩
  rw [← hA'] at Y
  have hvm : s'.vm = s.vm := by rw [hA']; rfl
  have hhp : s'.heap = T.heap := by rw [hA']; rfl
  have hW0 : s.WarmedH s'.vm := by rw [hvm]; exact State.WarmedH.refl s
  have hat' : ∀ w ∈ vx_atS own ic cls names, w.before args s' = true := fun w hw => vx_ot_at hW0 hvm.symm (hgood w (List.mem_cons_of_mem _ (List.mem_cons_of_mem _ hw))) (hat w hw)
  have hk' : (Cond.classLink own ik cls).before args s' = true := vx_ot_at hW0 hvm.symm (hgood _ List.mem_cons_self) hk
  have hini' : (Cond.initialized cls).before args s' = true := vx_ot_at hW0 hvm.symm (hgood _ (List.mem_cons_of_mem _ List.mem_cons_self)) hini
  have hU' : vx_Zq Bundle.tN "UNASSIGNED_STACK" Bundle.steD A s' s'.heap := by rw [hhp]; exact vx_Zq.moved hW0.alike (hU.kept hS.2.1)
  have hN' : vx_Zq Bundle.tN "SUPPRESSED_SENTINEL" Bundle.listD A s' s'.heap := by rw [hhp]; exact vx_Zq.moved hW0.alike (hN.kept hS.2.1)
  have h : ∀ w ∈ Bundle.ownAtoms own ic cls names, w.before args s' = true := vx_own hat' (vx_isRefq hU'.1) (vx_isRefq hN'.1) hU'.2.word hN'.2.word
  have hown' : s'.vm.findClass own = some m.cls := by rw [hvm]; exact hown
  have hins : (Cond.instantiable cls 6).before args s' = true := h _ (by simp [Bundle.ownAtoms])
  obtain ⟨vm₁, cX, kX, hfX, hkX, -, -, X₁, st1⟩ := Y.newCold hexec (own := own) (C := cls) (index := ik) (n := 6) hown' hk' hins hini'
    (g := F0 m pc ls rest) rfl (by rw [hb]; exact d0) (Nat.le_refl _) (Nat.le_refl _)
  generalize hT1 : (T.setVm vm₁).pushCell { cls := cX, slots := kX.instanceTypes.map defaultValue, vm := .none } = T1 at X₁ st1
  have hcat : (Value.ref T.heap.size).category = 1 := rfl
  have hcellA : T1.heap[T.heap.size]? = some (freshCell cX kX) := by rw [← hT1]; exact State.heap_pushCell_size _ _
  have d3' : decode c.code (pc + 3) = .ok (.dup, 1) := by rw [hb]; exact d3
  have d4' : decode c.code (pc + 4) = .ok (.ldc_w is, 3) := by rw [hb]; exact d4
  have hstr' : vk_R own is text sa s' := vk_R.warm hW0 hstr
  obtain ⟨V, ce, L, Z, hL, hlt, hcl9, hvm9, st⟩ := vx_ctorMadeS X₁ hexec htr (own := own) (cls := cls) (names := names) (ic := ic) hown' hcls hnames h (fun x hx => nomatch hx) hfX hkX hcellA (by rw [hhp]; exact Nat.le_refl _) (msg := .ref sa) rfl
    (g := { method := m, pc := pc + 7, locals := ls, stack := .ref sa :: .ref T.heap.size :: .ref T.heap.size :: rest, locked := none }) rfl hsize (rest := rest) rfl
    (by rw [hb]; exact d6) hRframes (by simp only [List.map_cons, List.sum_cons, hcat]; omega)
  have Z0 := Stand.forget (locs := []) Z (fun y hy => by rw [hL y hy, hhp]; exact Nat.le_refl _)
  obtain ⟨f1, f2⟩ := vx_frame Z0.same
  rw [hhp] at f1 f2
  have hcid : s.vm.findClass cls = some ce.cls := by
    rw [hcl9]
    rw [hvm] at hfX
    exact hfX
  have hh : (V.setCell T.heap.size ce).heap[T.heap.size]? = some ce := heapAt_setCell_self (s := V) ce hlt
  subst hA'
  have X5 := vx_back9 X Y Z0
  have X6 : Stand p l e R s m args below meth c (V.setCell T.heap.size ce) locs (cells + 1) (slots + 6) := { X5 with same := X5.same.mono (by omega) (by omega) }
  have hsz1 : (V.setCell T.heap.size ce).heap.size = T.heap.size + 1 := by
    have h1 := Z0.same.2.2.1
    have h2 := (Array.getElem?_eq_some_iff.mp hh).1
    have h3 : ({ (V.setCell T.heap.size ce) with vm := ((T.setVm s.vm).setFrames (.invoking m args :: below)).vm } : State).heap.size ≤ T.heap.size + 1 := h1
    have h4 : (V.setCell T.heap.size ce).heap.size ≤ T.heap.size + 1 := h3
    omega
  obtain ⟨t, a1, b1⟩ := kk (V.setCell T.heap.size ce).heap ce hsz1 (fun q hq => f2 q hq (fun z hz => nomatch hz)) hh hcid hvm9 _ rfl X6
  refine ⟨t, st1 _ ?_, b1⟩
  show Steps p.tables e below (T1.setTop { method := m, pc := pc + 3, locals := ls, stack := .ref T.heap.size :: rest, locked := none }) _
  jvm_step X₁.here [X₁.here.top, hexec, d3', Value.category]
  exact X₁.ldcStringW hexec (own := own) (text := text) (index := is) (a := sa) hown' hstr'.1 hstr'.2
    (g := { method := m, pc := pc + 4, locals := ls, stack := .ref T.heap.size :: .ref T.heap.size :: rest, locked := none }) rfl d4' _ (st _ a1)
end AXT
section AXU
variable {G : ax_G} {mt : ax_T} {d pc pc' : Nat} {ls ls' : List (Option ax_V)} {st st' rest : List ax_V} {M M' M1 : ax_M} {o : Option ax_V ⊕ String} {t n sl : Nat}
/-- throw new E(text), of a method without handlers -/
theorem x_throwW {ik is ic ci : Nat} {cls text : String} {names : List String} (hw : ax_Tw mt.1.cls ik is ic cls text names) (hno : mt.2.2.2.2 = []) (hc : 13 ≤ ci ∧ ci < 16) (hcls : axR ci = cls) (hG : gPh G 243 = true) (hfl : (gL G).stackTraces = false)
    (d0 : decode mt.2.1 pc = .ok (.new ik, 3)) (d3 : decode mt.2.1 (pc + 3) = .ok (.dup, 1)) (d4 : decode mt.2.1 (pc + 4) = .ok (.ldc_w is, 3)) (d6 : decode mt.2.1 (pc + 7) = .ok (.invokespecial ic, 3)) (d9 : decode mt.2.1 (pc + 10) = .ok (.athrow, 1)) (hst : st.length ≤ 4) (h6 : 6 ≤ d) :
    ax_Ex G mt d pc ls st M (.inr cls) (mAl M ci 0 6) := by
  intro g hos hol
  have z1 : mSz (mAl M ci 0 6) = mSz M + 1 := rfl
  have z2 : mSl (mAl M ci 0 6) = mSl M + 6 := rfl
  refine ⟨⟨ax_gA g, fun v h => (by cases h), by rw [z1]; omega, by rw [z2]; omega⟩, fun p e R s m args below meth c Q n1 n2 H locs cells slots lc C KS h0 hd' hl hc' hs e1 e2 hR hS hL hF => ?_⟩
  obtain ⟨w1, w2, w3, w4, w5, w6, w7, w8⟩ := hw
  have hts := C.2.2.2.2.2.2.1
  obtain ⟨a, ha⟩ := KS.2.2.2.2.2.2.2.2.1 _ w5
  rw [z1] at e1
  rw [z2] at e2
  refine ax_makeSW (A := ax_A G) C.1 C.2.1 hfl C.2.2.2.2.2.1 w1 w2 (hts _ w3) (hts _ w4) ha (fun w hw => ?_) w7 KS.2.2.2.2.2.2.1 KS.2.2.2.2.2.2.2.1 hS (hL.1.trans C.2.2.1.symm) d0 d3 d4 d6 (by omega) ?_ (by omega) (by omega) (fun H1 ce z o1 hce hcl hvm => ?_)
  · rcases w6 w hw with h | h
    · exact hts _ h
    · exact va_tabs (by
        have := w7 w (List.mem_cons_of_mem _ (List.mem_cons_of_mem _ hw))
        simp only [vx_ot, Bool.or_eq_true] at this
        rcases this with h1 | h1
        · exact h1
        · rcases good_of_word h1 with h2 | ⟨ty, rfl⟩
          · exact (Bool.and_eq_true_iff.mp h2).1
          · exact absurd (List.mem_filter.mp h).2 (by simp [axNest])) rfl (KS.2.2.2.2.2.2.2.2.2.2.2.2.1 _ h)
  · have h1 := ax_sum (l := st.map (ax_cv G))
    rw [List.length_map] at h1
    omega
  · have hz : axB ≤ axC + mSz M := by
      have := (hR.2.1 243 hG).2
      show 244 ≤ 150 + mSz M
      have h2 : 243 < 150 + mSz M := this
      omega
    have hR1 : ax_Rel G (mAl M ci 0 6) H1 := by
      refine hR.alloc ?_ z o1
      refine ax_atObj (t := ci) (n := 0) (ax_shA (fun h => by omega)) (by omega) ?_
      have hfc := (KS.1.1 ci _ (axCl_at (by omega))).2.1
      rw [ax_adN, ← hR.1]
      refine ⟨ce, hce, Option.some.inj (hcl.symm.trans (by rw [← hcls]; exact hfc)), hvm, fun j hj => ?_⟩
      exfalso
      have : axN ci = 0 := by
        obtain ⟨h1, h2⟩ := hc
        rcases (show ci = 13 ∨ ci = 14 ∨ ci = 15 by omega) with rfl | rfl | rfl <;> rfl
      omega
    refine vx_athrow C.1 C.2.1 d9 ?_
    obtain ⟨Qc, XC, rfl, hX⟩ := hF
    have hS1 := ax_vSA hS z o1
    refine vx_out ?_ C.2.2.2.2.1 hce hvm hcl (fun t ht hA => hX t (by rw [ht]; exact hR1) (ax_vF hS1 ht) hA) hS1.2.2 (by omega) (by omega)
    rw [C.2.2.2.2.2.2.2.2, hno]
    intro x hx
    cases hx
/-- a switch with gaps leads on -/
theorem x_tabD {dflt lo hi : Int} {offs : Array Int} {len tgt : Nat} {x : Int} (good : List Int) (hd : decode mt.2.1 pc = .ok (.tableswitch dflt lo hi offs, len)) (ht : (pc : Int) + dflt = (tgt : Int)) (hn : hi = lo + (offs.size : Int) - 1) (hg : (List.range offs.size).all (fun i => good.contains (lo + (i : Int)) || decide (offs[i]? = some dflt)) = true) (hx : ∀ v ∈ good, x ≠ v) (k : ax_Ex G mt d tgt ls st M o M') : ax_Ex G mt d pc ls (vI x :: st) M o M' := by
  by_cases h : x < lo ∨ hi < x
  · exact x_tabOut hd h ht k
  · have h1 := List.all_eq_true.mp hg (x - lo).toNat (List.mem_range.mpr (by omega))
    rcases Bool.or_eq_true_iff.mp h1 with h2 | h2
    · have h3 : lo + (((x - lo).toNat : Nat) : Int) = x := by omega
      rw [h3] at h2
      exact absurd rfl (hx x (List.contains_iff_mem.mp h2))
    · exact x_tabIn (off := dflt) x hd rfl (by omega) (by omega) (of_decide_eq_true h2) ht k
end AXU
