/-! what is made: objects, arrays -/
/-- a new cell: its kind, its length, its slots -/
def mAl (M : ax_M) (t n sl : Nat) : ax_M := (fun a b => if a = axC + mSz M then 0 else mI M a b, fun a b => if a = axC + mSz M then none else mR M a b, fun a b => if a = axC + mSz M then 0 else mJ M a b, mSz M + 1, mSl M + sl, fun a => if a = axC + mSz M then (t, n) else mSh M a)
section AXA
variable {G : ax_G} {mt : ax_T} {d pc pc' : Nat} {ls : List (Option ax_V)} {st st' : List ax_V} {M M' M1 : ax_M} {o : Option ax_V ⊕ String} {t n sl : Nat}
theorem ax_shA (hs : axC + mSz M < axB → axF.getD (mSz M) (0, 0) = (t, n)) : ax_sh (mAl M t n sl) (axC + mSz M) = (t, n) := by
  unfold ax_sh
  by_cases h : axC + mSz M < axB
  · rw [if_pos h, show axC + mSz M - axC = mSz M by omega]; exact hs h
  · rw [if_neg h]
    simp [mAl, mSh]
theorem ax_shO {k : Nat} (h : k ≠ axC + mSz M) : ax_sh (mAl M t n sl) k = ax_sh M k := by
  unfold ax_sh
  simp only [mAl, mSh]
  rw [if_neg h]
theorem ax_svO {k t' i : Nat} (h : k ≠ axC + mSz M) : ax_sv G (mAl M t n sl) t' k i = ax_sv G M t' k i := by
  unfold ax_sv
  simp only [mAl, mI, mR, mJ]
  rw [if_neg h, if_neg h, if_neg h]
theorem ax_svN {t' i : Nat} : ax_sv G (mAl M t n sl) t' (axC + mSz M) i = (match ax_kd t' i with | 0 => .int 0 | 1 => .null | _ => .long 0) := by
  unfold ax_sv
  simp only [mAl, mI, mR, mJ, if_true]
  rcases ax_kdc t' i with e | e | e <;> rw [e] <;> rfl
theorem ax_adN : ax_ad G (axC + mSz M) = gSz G + mSz M := by
  rw [ax_adC (by omega)]
  omega
theorem ax_Rel.alloc {H H1 : Heap} (h : ax_Rel G M H) (hat : ax_At G (mAl M t n sl) H1 (axC + mSz M)) (z : H1.size = H.size + 1) (oq : ∀ q, q < H.size → H1[q]? = H[q]?) : ax_Rel G (mAl M t n sl) H1 := by
  obtain ⟨h1, h2, h3, h4⟩ := h
  have hsz : mSz (mAl M t n sl) = mSz M + 1 := rfl
  refine ⟨by rw [z, h1, hsz]; omega, fun k hk => ⟨(h2 k hk).1, by have := (h2 k hk).2; rw [hsz]; omega⟩, fun k hc hk => ?_, fun k hk j r hr => ?_⟩
  · by_cases e : k = axC + mSz M
    · rw [e]; exact hat
    · rw [hsz] at hk
      have hat := h3 k hc (by omega)
      have ha : ax_ad G k < H.size := by rw [ax_adC hc, h1]; omega
      unfold ax_At at hat ⊢
      rw [ax_shO e]
      by_cases ht : (ax_sh M k).1 < 32
      · rw [if_pos ht] at hat ⊢
        exact (hat.kept (oq _ ha)).to (fun i _ => (ax_svO e).symm)
      · rw [if_neg ht] at hat ⊢
        rw [oq _ ha, hat]
        exact congrArg (fun f => some (arrV _ _ f)) (funext fun i => (ax_svO e).symm)
  · have e : k ≠ axC + mSz M := by have := (h2 k hk).2; omega
    show (if k = axC + mSz M then none else mR M k j) = some r
    rw [if_neg e]
    exact h4 k hk j r hr
theorem ax_gA (g : ax_g M) : ax_g (mAl M t n sl) := by
  refine ⟨fun k j => ?_, fun k hk j a => ?_⟩
  · show ax_in (if k = axC + mSz M then 0 else mI M k j)
    split
    · exact ax_in0
    · exact g.1 k j
  · show (if k = axC + mSz M then none else mR M k j) = some a → _
    split
    · intro h; cases h
    · exact g.2 k hk j a
theorem ax_vSA {s : State} {H H1 : Heap} {locs : List Loc} (hS : va_S (ax_A G) s.heap H locs) (z : H1.size = H.size + 1) (oq : ∀ q, q < H.size → H1[q]? = H[q]?) : va_S (ax_A G) s.heap H1 locs :=
  ⟨Nat.le_trans hS.1 (by omega), fun x h1 h2 => (oq x (Nat.lt_of_lt_of_le h1 hS.1)).trans (hS.2.1 x h1 h2), hS.2.2⟩
/-- a row that makes a cell -/
theorem ax_alloc (hok : ax_oS st → ax_oS st')
    (h : ∀ {p : Program} {e : Env} {R : Room} {s : State} {m : MethodId} {args : Array Value} {below : List Frame} {meth : Method} {c : Code} {Q : State → Prop} {H : Heap} {locs : List Loc} {cells slots : Nat} {lc : Array Slot},
      ax_C mt p s m args meth c → ax_KS G s → gSz G ≤ s.heap.size → d ≤ R.frames → 40 * d ≤ R.locals → cells + 1 ≤ R.cells → slots + sl ≤ R.slots → ax_Rel G M H → va_S (ax_A G) s.heap H locs → ax_oS st → (lc.size = c.maxLocals) →
      (∀ (H1 : Heap), ax_Rel G (mAl M t n sl) H1 → va_S (ax_A G) s.heap H1 locs → W p (gL G) e R s m args below meth c H1 locs (cells + 1) (slots + sl) Q (F0 m pc' lc (st'.map (ax_cv G)))) →
      W p (gL G) e R s m args below meth c H locs cells slots Q (F0 m pc lc (st.map (ax_cv G))))
    (k : ax_Ex G mt d pc' ls st' (mAl M t n sl) o M') : ax_Ex G mt d pc ls st M o M' := by
  intro g hos hol
  obtain ⟨⟨k0, k00, k1, k2⟩, k3⟩ := k (ax_gA g) (hok hos) hol
  have z1 : mSz (mAl M t n sl) = mSz M + 1 := rfl
  have z2 : mSl (mAl M t n sl) = mSl M + sl := rfl
  rw [z1] at k1
  rw [z2] at k2
  refine ⟨⟨k0, k00, by omega, by omega⟩, fun p e R s m args below meth c Q n1 n2 H locs cells slots lc C KS h0 hd hl hc hs e1 e2 hR hS hL hF =>
    h C KS h0 hd hl (by omega) (by omega) hR hS hos (hL.1.trans C.2.2.1.symm) (fun H1 hR1 hS1 => k3 p e R s m args below meth c Q n1 n2 H1 locs (cells + 1) (slots + sl) lc C KS h0 hd hl hc hs (by rw [z1]; omega) (by rw [z2]; omega) hR1 hS1 hL hF)⟩
theorem ax_nfd : ∀ t, t < 13 → ∀ j, j < axN t → ax_tf t j ≠ .float ∧ ax_tf t j ≠ .double := by decide +kernel
/-- a new object -/
theorem x_new {idx : Nat} (hd : decode mt.2.1 pc = .ok (.new idx, 3)) (ht : t < 13) (hs : axC + mSz M < axB → axF.getD (mSz M) (0, 0) = (t, axN t)) (hl : Cond.classLink mt.1.cls idx (axR t) ∈ ax_W) (hins : Cond.instantiable (axR t) (axN t) ∈ ax_W) (hini : Cond.initialized (axR t) ∈ ax_W)
    (k : ax_Ex G mt d (pc + 3) ls (vR (axC + mSz M) :: st) (mAl M t (axN t) (axN t)) o M') : ax_Ex G mt d pc ls st M o M' :=
  ax_alloc (fun h => ax_oS_cons ax_okR h) (fun {p e R s m args below meth c Q H locs cells slots lc} C KS h0 hd' hl' hc hs' hR hS hos hsz k2 => by
    have hts := C.2.2.2.2.2.2.1
    have hKn := KS.1.1 t _ (axCl_at (by omega))
    refine W.newcK C.1 C.2.1 C.2.2.2.2.2.1 (hts _ hl) (hts _ hins) (hts _ hini) rfl hd hc hs' hKn.2.1 rfl fun H1 kC hkC e1 z1 o1 => ?_
    have hb := u_born (ax_tf t) hts (ax_lays t ht) hKn hkC e1 (ax_tfs t ht)
    have hR1 : ax_Rel G (mAl M t (axN t) (axN t)) H1 := by
      refine hR.alloc ?_ z1 o1
      refine ax_atObj (ax_shA hs) (by omega) ?_
      rw [ax_adN, ← hR.1]
      refine hb.to (fun j hj => ?_)
      rw [ax_svN]
      unfold ax_kd
      rw [if_pos (by omega)]
      have hf := ax_nfd t ht j hj
      generalize ax_tf t j = ty at hf ⊢
      cases ty <;> first | rfl | exact absurd rfl hf.1 | exact absurd rfl hf.2
    have h9 := k2 H1 hR1 (ax_vSA hS z1 o1)
    have e9 : ax_cv G (vR (axC + mSz M)) = .ref H.size := by
      show Value.ref (ax_ad G (axC + mSz M)) = _
      rw [ax_adN, hR.1]
    rw [List.map_cons, e9] at h9
    exact h9) k
theorem ax_newA {ty : FieldType} {H H1 : Heap} {cA : ClassId} {N : Nat} (hR : ax_Rel G M H) (hs : axC + mSz M < axB → axF.getD (mSz M) (0, 0) = (t + 32, N)) (hc : cA = gCA G t) (hty : ∀ j, ax_kd (t + 32) j = ax_kt ty) (e1 : H1[H.size]? = some (arrV cA N (fun _ => defaultValue ty))) (hdv : defaultValue ty = (match ax_kt ty with | 0 => .int 0 | 1 => .null | _ => .long 0)) (z1 : H1.size = H.size + 1) (o1 : ∀ q, q < H.size → H1[q]? = H[q]?) : ax_Rel G (mAl M (t + 32) N sl) H1 := by
  refine hR.alloc ?_ z1 o1
  refine ax_atArr (ax_shA hs) ?_
  rw [ax_adN, ← hR.1, e1, hc]
  refine congrArg (fun f => some (arrV _ _ f)) (funext fun i => ?_)
  rw [ax_svN, hty, hdv]
theorem ax_cvN {H : Heap} (hR : ax_Rel G M H) : ax_cv G (vR (axC + mSz M)) = .ref H.size := by
  show Value.ref (ax_ad G (axC + mSz M)) = _
  rw [ax_adN, hR.1]
/-- a new array of ints -/
theorem x_newI {N : Nat} (hd : decode mt.2.1 pc = .ok (.newarray .int, 2)) (hN : N ≤ 100000) (hs : axC + mSz M < axB → axF.getD (mSz M) (0, 0) = (32, N)) (harr : Cond.arrayClass .int ∈ ax_W)
    (k : ax_Ex G mt d (pc + 2) ls (vR (axC + mSz M) :: st) (mAl M 32 N N) o M') : ax_Ex G mt d pc ls (vI (N : Int) :: st) M o M' :=
  ax_alloc (fun h => ax_oS_cons ax_okR (ax_oS_tl h)) (fun {p e R s m args below meth c Q H locs cells slots lc} C KS h0 hd' hl' hc hs' hR hS hos hsz k2 => by
    have h1 := ax_ix (i := (N : Int)) (j := N) (n := N + 1) ⟨by omega, by omega⟩ rfl (by omega)
    refine va_newaK (atype := .int) C.1 C.2.1 (C.2.2.2.2.2.2.1 _ harr) rfl hd rfl (fun q => h1.1 (Or.inl q)) h1.2 (by show N * 4 ≤ 536870912; omega) hc hs' rfl fun H1 cA e1 z1 o1 h2 h3 => ?_
    have hcA : cA = gCA G 0 := Option.some.inj (h3.symm.trans (KS.1.2 0 _ rfl).2)
    have h9 := k2 H1 (ax_newA (t := 0) (ty := .int) hR hs hcA (fun _ => rfl) e1 rfl z1 o1) (ax_vSA hS z1 o1)
    rw [List.map_cons, ax_cvN hR] at h9
    exact h9) k
theorem x_newB {N : Nat} (hd : decode mt.2.1 pc = .ok (.newarray .byte, 2)) (hN : N ≤ 100000) (hs : axC + mSz M < axB → axF.getD (mSz M) (0, 0) = (33, N)) (harr : Cond.arrayClass .byte ∈ ax_W)
    (k : ax_Ex G mt d (pc + 2) ls (vR (axC + mSz M) :: st) (mAl M 33 N N) o M') : ax_Ex G mt d pc ls (vI (N : Int) :: st) M o M' :=
  ax_alloc (fun h => ax_oS_cons ax_okR (ax_oS_tl h)) (fun {p e R s m args below meth c Q H locs cells slots lc} C KS h0 hd' hl' hc hs' hR hS hos hsz k2 => by
    have h1 := ax_ix (i := (N : Int)) (j := N) (n := N + 1) ⟨by omega, by omega⟩ rfl (by omega)
    refine va_newaK (atype := .byte) C.1 C.2.1 (C.2.2.2.2.2.2.1 _ harr) rfl hd rfl (fun q => h1.1 (Or.inl q)) h1.2 (by show N * 1 ≤ 536870912; omega) hc hs' rfl fun H1 cA e1 z1 o1 h2 h3 => ?_
    have hcA : cA = gCA G 1 := Option.some.inj (h3.symm.trans (KS.1.2 1 _ rfl).2)
    have h9 := k2 H1 (ax_newA (t := 1) (ty := .byte) hR hs hcA (fun _ => rfl) e1 rfl z1 o1) (ax_vSA hS z1 o1)
    rw [List.map_cons, ax_cvN hR] at h9
    exact h9) k
theorem x_newZ {N : Nat} (hd : decode mt.2.1 pc = .ok (.newarray .boolean, 2)) (hN : N ≤ 100000) (hs : axC + mSz M < axB → axF.getD (mSz M) (0, 0) = (34, N)) (harr : Cond.arrayClass .boolean ∈ ax_W)
    (k : ax_Ex G mt d (pc + 2) ls (vR (axC + mSz M) :: st) (mAl M 34 N N) o M') : ax_Ex G mt d pc ls (vI (N : Int) :: st) M o M' :=
  ax_alloc (fun h => ax_oS_cons ax_okR (ax_oS_tl h)) (fun {p e R s m args below meth c Q H locs cells slots lc} C KS h0 hd' hl' hc hs' hR hS hos hsz k2 => by
    have h1 := ax_ix (i := (N : Int)) (j := N) (n := N + 1) ⟨by omega, by omega⟩ rfl (by omega)
    refine va_newaK (atype := .boolean) C.1 C.2.1 (C.2.2.2.2.2.2.1 _ harr) rfl hd rfl (fun q => h1.1 (Or.inl q)) h1.2 (by show N * 1 ≤ 536870912; omega) hc hs' rfl fun H1 cA e1 z1 o1 h2 h3 => ?_
    have hcA : cA = gCA G 2 := Option.some.inj (h3.symm.trans (KS.1.2 2 _ rfl).2)
    have h9 := k2 H1 (ax_newA (t := 2) (ty := .boolean) hR hs hcA (fun _ => rfl) e1 rfl z1 o1) (ax_vSA hS z1 o1)
    rw [List.map_cons, ax_cvN hR] at h9
    exact h9) k
theorem x_newJ {N : Nat} (hd : decode mt.2.1 pc = .ok (.newarray .long, 2)) (hN : N ≤ 100000) (hs : axC + mSz M < axB → axF.getD (mSz M) (0, 0) = (35, N)) (harr : Cond.arrayClass .long ∈ ax_W)
    (k : ax_Ex G mt d (pc + 2) ls (vR (axC + mSz M) :: st) (mAl M 35 N N) o M') : ax_Ex G mt d pc ls (vI (N : Int) :: st) M o M' :=
  ax_alloc (fun h => ax_oS_cons ax_okR (ax_oS_tl h)) (fun {p e R s m args below meth c Q H locs cells slots lc} C KS h0 hd' hl' hc hs' hR hS hos hsz k2 => by
    have h1 := ax_ix (i := (N : Int)) (j := N) (n := N + 1) ⟨by omega, by omega⟩ rfl (by omega)
    refine va_newaK (atype := .long) C.1 C.2.1 (C.2.2.2.2.2.2.1 _ harr) rfl hd rfl (fun q => h1.1 (Or.inl q)) h1.2 (by show N * 8 ≤ 536870912; omega) hc hs' rfl fun H1 cA e1 z1 o1 h2 h3 => ?_
    have hcA : cA = gCA G 3 := Option.some.inj (h3.symm.trans (KS.1.2 3 _ rfl).2)
    have h9 := k2 H1 (ax_newA (t := 3) (ty := .long) hR hs hcA (fun _ => rfl) e1 rfl z1 o1) (ax_vSA hS z1 o1)
    rw [List.map_cons, ax_cvN hR] at h9
    exact h9) k
/-- a new row of the kinds of tokens -/
theorem x_newK {N idx : Nat} (hd : decode mt.2.1 pc = .ok (.anewarray idx, 3)) (hN : N ≤ 100000) (hs : axC + mSz M < axB → axF.getD (mSz M) (0, 0) = (36, N)) (hl : Cond.classLink mt.1.cls idx "HexPond$Kind" ∈ ax_W) (hover : Cond.arrayOver (.object "HexPond$Kind") ∈ axNw)
    (k : ax_Ex G mt d (pc + 3) ls (vR (axC + mSz M) :: st) (mAl M 36 N N) o M') : ax_Ex G mt d pc ls (vI (N : Int) :: st) M o M' :=
  ax_alloc (fun h => ax_oS_cons ax_okR (ax_oS_tl h)) (fun {p e R s m args below meth c Q H locs cells slots lc} C KS h0 hd' hl' hc hs' hR hS hos hsz k2 => by
    have h1 := ax_ix (i := (N : Int)) (j := N) (n := N + 1) ⟨by omega, by omega⟩ rfl (by omega)
    refine W.anew C.1 C.2.1 C.2.2.2.2.2.1 (C.2.2.2.2.2.2.1 _ hl) (va_AO.use (KS.2.2.2.2.2.2.2.2.2.2.2.2.1 _ hover)) rfl hd rfl (fun q => h1.1 (Or.inl q)) (by rw [h1.2]; omega) hc (by rw [h1.2]; exact hs') fun cA kA comp f1 f2 f3 f4 => ?_
    rw [h1.2]
    generalize hH1 : H.push ({ cls := cA, slots := Array.replicate N .null, vm := .none } : Cell) = H1
    have z1 : H1.size = H.size + 1 := by rw [← hH1, Array.size_push]
    have e1 : H1[H.size]? = some (arrV cA N (fun _ => defaultValue (.object "HexPond$Kind"))) := by rw [← hH1, Array.getElem?_push_size, ← arrV_new]; rfl
    have o1 : ∀ q : Nat, q < H.size → H1[q]? = H[q]? := fun q hq => by rw [← hH1, Array.getElem?_push, if_neg (Nat.ne_of_lt hq)]
    obtain ⟨kA', comp', -, -, -, h3⟩ := (KS.1.2 4 _ rfl).2
    have hcA : cA = gCA G 4 := Option.some.inj (f1.symm.trans h3)
    have h9 := k2 H1 (ax_newA (t := 4) (ty := .object "HexPond$Kind") hR hs hcA (fun _ => rfl) e1 rfl z1 o1) (ax_vSA hS z1 o1)
    rw [List.map_cons, ax_cvN hR] at h9
    exact h9) k
end AXA
