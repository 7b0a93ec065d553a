/-! calls, returns, throws -/
def ax_args : List ax_V → List (Option ax_V)
  | [] => []
  | v :: t => if ax_c2 v then some v :: none :: ax_args t else some v :: ax_args t
theorem ax_lp_none {G : ax_G} : ∀ (k n : Nat), ax_lp G n (List.replicate k none) = []
  | 0, _ => rfl
  | k + 1, n => by rw [List.replicate_succ]; exact ax_lp_none k (n + 1)
theorem ax_cat2 {G : ax_G} {v : ax_V} (h : ax_c2 v = true) : (ax_cv G v).category = 2 := by
  rcases v with n | r | x | x
  · cases h
  · cases h
  · rfl
  · rfl
theorem ax_args_lp {G : ax_G} : ∀ (vs : List ax_V) (n k : Nat), ax_lp G n (ax_args vs ++ List.replicate k none) = lv_args n (vs.map (ax_cv G))
  | [], n, k => ax_lp_none k n
  | v :: t, n, k => by
    simp only [ax_args, List.map_cons, lv_args]
    cases h : ax_c2 v
    · rw [if_neg (ax_cat' h)]
      show (n, ax_cv G v) :: ax_lp G (n + 1) (ax_args t ++ List.replicate k none) = _
      rw [ax_args_lp t (n + 1) k]
    · rw [if_pos (ax_cat2 h)]
      show (n, ax_cv G v) :: ax_lp G (n + 1 + 1) (ax_args t ++ List.replicate k none) = _
      rw [ax_args_lp t (n + 1 + 1) k]
theorem ax_args_sl {G : ax_G} : ∀ vs : List ax_V, (lg_sl (vs.map (ax_cv G))).length = (ax_args vs).length
  | [] => rfl
  | v :: t => by
    have ih := ax_args_sl (G := G) t
    simp only [lg_sl, List.map_cons, List.flatMap_cons, List.length_append, ax_args] at ih ⊢
    cases h : ax_c2 v
    · rw [if_neg (ax_cat' h), if_neg (by simp), List.length_cons, List.length_cons, List.length_nil, ih]; omega
    · rw [if_pos (ax_cat2 h), if_pos rfl, List.length_cons, List.length_cons, List.length_cons, List.length_cons, List.length_nil, ih]; omega
theorem ax_args_ok0 : ∀ {vs : List ax_V}, ax_oS vs → ∀ w, some w ∈ ax_args vs → ax_ok w
  | [], _, w, hw => by cases hw
  | v :: t, h, w, hw => by
    simp only [ax_args] at hw
    split at hw
    · rcases List.mem_cons.mp hw with e | hw
      · cases e; exact ax_oS_hd h
      · rcases List.mem_cons.mp hw with e | hw
        · cases e
        · exact ax_args_ok0 (ax_oS_tl h) w hw
    · rcases List.mem_cons.mp hw with e | hw
      · cases e; exact ax_oS_hd h
      · exact ax_args_ok0 (ax_oS_tl h) w hw
theorem ax_args_ok {vs : List ax_V} (h : ax_oS vs) (k : Nat) : ax_oL (ax_args vs ++ List.replicate k none) := by
  intro w hw
  rcases List.mem_append.mp hw with hw | hw
  · exact ax_args_ok0 h w hw
  · exact absurd (List.eq_of_mem_replicate hw) (fun e => by cases e)
/-- the word of a method's code -/
def ax_cw (mt : ax_T) : Cond := if mt.2.2.2.2 = [] then Cond.code mt.1 mt.2.1 mt.2.2.1 mt.2.2.2.1 else Cond.codeWith mt.1 mt.2.1 mt.2.2.1 mt.2.2.2.1 mt.2.2.2.2
/-- what may be returned -/
def ax_rt (ret : Option FieldType) (ov : Option ax_V) : Prop := match ret, ov with
  | none, none => True
  | some .int, some (.inl _) => True
  | some .boolean, some (.inl n) => n = 0 ∨ n = 1
  | some .byte, some (.inl n) => -128 ≤ n ∧ n < 128
  | some .char, some (.inl n) => 0 ≤ n ∧ n < 65536
  | some .long, some (.inr (.inr (.inl _))) => True
  | some .double, some (.inr (.inr (.inr _))) => True
  | some (.object _), some (.inr (.inl _)) => True
  | some (.array _), some (.inr (.inl _)) => True
  | _, _ => False
theorem ax_narC {v : Int} (hv : 0 ≤ v ∧ v < 65536) : narrow .char (.int (Int32.ofInt v)) = .int (Int32.ofInt v) := by
  obtain ⟨n, rfl⟩ := Int.eq_ofNat_of_zero_le hv.1
  exact (pk_charN (q := n) (by omega)).1
section AXC
variable {G : ax_G} {mt : ax_T} {d pc : Nat} {ls : List (Option ax_V)} {st : List ax_V} {M M' M1 : ax_M} {o : Option ax_V ⊕ String}
theorem x_ret {ov : Option ax_V} (hd : decode mt.2.1 pc = .ok (ax_ri ov, 1)) : ax_Ex G mt d pc ls ov.toList M (.inl ov) M := by
  intro g hos hol
  refine ⟨⟨g, fun v h => ?_, Nat.le_refl _, Nat.le_refl _⟩, fun p e R s m args below meth c Q n1 n2 H locs cells slots lc C KS h0 hd' hl hc hs e1 e2 hR hS hL hF => ?_⟩
  · cases h
    exact hos v (by simp)
  · rw [Nat.sub_self, Nat.add_zero] at e1 e2
    subst e1
    subst e2
    exact hF H locs lc pc hR hS hd
def ax_P (G : ax_G) (vs : List ax_V) (M : ax_M) : Array Value → State → Prop := fun a U => a = (vs.map (ax_cv G)).toArray ∧ ax_KS G U ∧ gSz G ≤ U.heap.size ∧ ax_Rel G M U.heap
def ax_Q (G : ax_G) (o : Option ax_V ⊕ String) (M1 : ax_M) : Array Value → State → Outcome → State → Prop := fun _ st oc t => (∃ ov, o = .inl ov ∧ oc = .returned (ov.map (ax_cv G)) ∧ ax_Rel G M1 t.heap) ∧ va_F (ax_A G) st t
def ax_X (G : ax_G) (o : Option ax_V ⊕ String) (M1 : ax_M) : String → State → State → Prop := fun E st t => o = .inr E ∧ ax_Rel G M1 t.heap ∧ va_F (ax_A G) st t
theorem ax_vF {H : Heap} {locs : List Loc} {s t : State} (hS : va_S (ax_A G) s.heap H locs) (h : t.heap = H) : va_F (ax_A G) s t := ⟨by rw [h]; exact hS.1, fun q h1 h2 => by rw [h]; exact hS.2.1 q h1 h2⟩
theorem ax_end {ov : Option ax_V} (hrt : ax_rt mt.2.2.2.1 ov) {p : Program} {e : Env} {R : Room} {s : State} {m : MethodId} {args : Array Value} {below : List Frame} {meth : Method} {c : Code} {H : Heap} {locs : List Loc} {lc : Array Slot} {n1 n2 : Nat} (C : ax_C mt p s m args meth c) (hR : ax_Rel G M H) (hS : va_S (ax_A G) s.heap H locs) (hd : decode mt.2.1 pc = .ok (ax_ri ov, 1)) :
    W p (gL G) e R s m args below meth c H locs n1 n2 (MQ below (ax_Q G (.inl ov) M) args s n1 n2 (ax_A G)) (F0 m pc lc (ov.toList.map (ax_cv G))) := by
  obtain ⟨hx, hb, -, hr, hlk, -, -, -, -⟩ := C
  have hq : ∀ t : State, t.heap = H → s.WarmedH t.vm → ax_Q G (.inl ov) M args s (.returned (ov.map (ax_cv G))) t := fun t ht _ => ⟨⟨ov, rfl, rfl, by rw [ht]; exact hR⟩, ax_vF hS ht⟩
  rcases ov with _ | v
  · have h0 : mt.2.2.2.1 = none := by
      cases h : mt.2.2.2.1 with
      | none => rfl
      | some ty => rw [h] at hrt; cases ty <;> exact hrt.elim
    exact W.vret hx hb (hr.trans h0) hq hS.2.2 hd hlk
  · cases h : mt.2.2.2.1 with
    | none => rw [h] at hrt; exact hrt.elim
    | some ty =>
      rw [h] at hr hrt
      rcases v with n | r | x | x
      · refine W.zret (ty := ty) (v := Int32.ofInt n) hx hb hr ?_ hq hS.2.2 hd hlk
        cases ty <;> first | exact hrt.elim | rfl | (rcases hrt with rfl | rfl <;> rfl) | exact ax_narB hrt | exact ax_narC hrt
      · refine W.aret (rt := ty) (v := ax_rv G r) hx hb hr ?_ ?_ hq hS.2.2 hd hlk
        · cases ty <;> first | exact hrt.elim | exact Or.inl ⟨_, rfl⟩ | exact Or.inr ⟨_, rfl⟩
        · cases r with
          | none => exact Or.inl rfl
          | some a => exact Or.inr ⟨_, rfl⟩
      · have h2 : ty = .long := by cases ty <;> first | exact hrt.elim | rfl
        exact W.lret hx hb (by rw [hr, h2]) hq hS.2.2 hd hlk
      · have h2 : ty = .double := by cases ty <;> first | exact hrt.elim | rfl
        exact W.dret hx hb (by rw [hr, h2]) hq hS.2.2 hd hlk
theorem ax_Wg {w : Cond} (h : w ∈ ax_W) : goodWord w = true := (List.mem_filter.mp h).2
theorem ax_gin {mt' : ax_T} (h : ax_cw mt' ∈ ax_W) : GoodIn ax_W (ax_cw mt' :: ax_W) := by
  intro w hw
  have h1 : w ∈ ax_W := by
    rcases List.mem_cons.mp hw with rfl | h2
    · exact h
    · exact h2
  exact ⟨h1, good_of_word (ax_Wg h1)⟩
/-- what is asked of a method that is called -/
def ax_Kn (mt' : ax_T) (n : Nat) : Prop := plainFor mt'.1 = true ∧ ax_cw mt' ∈ ax_W ∧ (mt'.1.cls ≠ "java/lang/invoke/MethodHandle" ∧ mt'.1.cls ≠ "java/lang/invoke/VarHandle") ∧ (parseMethodDescriptor mt'.1.desc).map (fun d => d.parameters.length) = some n ∧ mt'.2.2.1 ≤ 21
/-- a method that is walked is met -/
theorem ax_met {mt' : ax_T} {vs : List ax_V} {n k d' : Nat} (K : ax_Kn mt' n) (hlen : (ax_args vs).length + k = mt'.2.2.1) (g : ax_g M) (hvs : ax_oS vs) (hrt : ∀ ov, o = .inl ov → ax_rt mt'.2.2.2.1 ov)
    (h : ax_Ex G mt' d' 0 (ax_args vs ++ List.replicate k none) [] M o M1) :
    vx_Met (gL G) mt'.1 (ax_cw mt' :: ax_W) ⟨d', mSz M1 - mSz M, mSl M1 - mSl M, 40 * d'⟩ (ax_P G vs M) (ax_Q G o M1) (ax_X G o M1) (mSz M1 - mSz M) (mSl M1 - mSl M) (ax_A G) := by
  obtain ⟨hpl, hcw, -, -, -⟩ := K
  have body : ∀ (p : Program) (e : Env) (s : State) (m : MethodId) (args : Array Value) (below : List Frame) (meth : Method) (c : Code) (s₁ : State), BodyLoose p (gL G) mt'.1 (headSpec (ax_cw mt' :: ax_W) ⟨d', mSz M1 - mSz M, mSl M1 - mSl M, 40 * d'⟩) mt'.2.1 mt'.2.2.1 mt'.2.2.2.1 e s m args below meth c s₁ → c.maxLocals = mt'.2.2.1 → c.exceptionTable.toList = tableOf mt'.2.2.2.2 → ax_P G vs M args s →
      W p (gL G) e ⟨d', mSz M1 - mSz M, mSl M1 - mSl M, 40 * d'⟩ s m args below meth c s.heap [] 0 0 (vx_MQ below (ax_Q G o M1) (ax_X G o M1) args s (mSz M1 - mSz M) (mSl M1 - mSl M) (ax_A G)) (entryFrame m args mt'.2.2.1) := by
    intro p e s m args below meth c s₁ B hml htb hP
    obtain ⟨rfl, KS, hsz, hR⟩ := hP
    have hts := atoms_spec (ws := ax_cw mt' :: ax_W) B.pre
    have C : ax_C mt' p s m (vs.map (ax_cv G)).toArray meth c := ⟨B.exec, B.bytes, hml, B.returns, B.notSynchronized, findClass_of_methodNamed B.named, fun w hw => hts w (List.mem_cons_of_mem _ hw), (name_of_methodNamed B.named B.method).1, htb⟩
    obtain ⟨⟨p1, p2, p3, p4⟩, hE⟩ := h g ax_oS_nil (ax_args_ok hvs k)
    rw [lg_entry_eq]
    refine hE p e _ s m _ below meth c _ (mSz M1 - mSz M) (mSl M1 - mSl M) s.heap [] 0 0 _ C KS hsz (Nat.le_refl _) (Nat.le_refl _) (Nat.le_refl _) (Nat.le_refl _) (Nat.zero_add _) (Nat.zero_add _) hR ⟨Nat.le_refl _, fun _ _ _ => rfl, fun _ h => nomatch h⟩ ?_ ?_
    · have h1 := lv_entry (vs.map (ax_cv G)) (n := mt'.2.2.1) (by rw [ax_args_sl]; omega)
      rw [ax_args_lp]
      exact h1
    · cases o with
      | inl ov =>
        intro H locs lc pc hR1 hS1 hd1
        exact vx_ret (ax_end (hrt ov rfl) C hR1 hS1 hd1)
      | inr E => exact ⟨_, _, rfl, fun t hR1 hF _ => ⟨rfl, hR1, hF⟩⟩
  have cs : ∀ (args : Array Value) (s : State) (m : MethodId), (ax_cw mt').before args s = true → s.methodNamed? mt'.1 = some m → ∃ meth c, s.vm.method? m = some meth ∧ meth.code = some c ∧ c.code = mt'.2.1 ∧ c.maxLocals = mt'.2.2.1 ∧ meth.sig.returnType = mt'.2.2.2.1 ∧ meth.locks = false := by
    intro args s m h hn
    by_cases hh : mt'.2.2.2.2 = []
    · rw [show ax_cw mt' = Cond.code mt'.1 mt'.2.1 mt'.2.2.1 mt'.2.2.2.1 from if_pos hh] at h
      obtain ⟨meth, c, h1, h2, h3, h4, h5, h6, -, -⟩ := Cond.code_spec hn h
      exact ⟨meth, c, h1, h2, h3, h4, h5, h6⟩
    · rw [show ax_cw mt' = Cond.codeWith mt'.1 mt'.2.1 mt'.2.2.1 mt'.2.2.2.1 mt'.2.2.2.2 from if_neg hh] at h
      obtain ⟨m9, meth, c, hn9, h1, h2, h3, h4, -, h5, h6, -⟩ := Cond.codeWith_spec h
      cases hn.symm.trans hn9
      exact ⟨meth, c, h1, h2, h3, h4, h5, h6⟩
  refine MetFree.of_bodySF (code := mt'.2.1) (maxLocals := mt'.2.2.1) (ret := mt'.2.2.2.1) hpl (fun args s m h hn => cs args s m (atoms_spec (ws := ax_cw mt' :: ax_W) h _ List.mem_cons_self) hn) ?_
  intro p e s m args below meth c s₁ B hml hP _
  have hh0 : s₁.heap = s.heap := by rw [B.state]; rfl
  have hcw0 := atoms_spec (ws := ax_cw mt' :: ax_W) B.pre _ List.mem_cons_self
  have ht : c.exceptionTable.toList = tableOf mt'.2.2.2.2 := by
    by_cases hh : mt'.2.2.2.2 = []
    · rw [show ax_cw mt' = Cond.code mt'.1 mt'.2.1 mt'.2.2.1 mt'.2.2.2.1 from if_pos hh] at hcw0
      obtain ⟨meth9, c9, h1, h2, -, -, -, -, h7, -⟩ := Cond.code_spec B.named hcw0
      cases Option.some.inj (h1.symm.trans B.method)
      cases Option.some.inj (h2.symm.trans (Stand.of_body B).code)
      rw [Array.isEmpty_iff.mp h7, hh]
      rfl
    · rw [show ax_cw mt' = Cond.codeWith mt'.1 mt'.2.1 mt'.2.2.1 mt'.2.2.2.1 mt'.2.2.2.2 from if_neg hh] at hcw0
      exact vx_table (x := mt'.1) B hcw0
  obtain ⟨t, a1, o, b1, b2, b3⟩ := body p e s m args below meth c s₁ B hml ht hP s₁ hh0 (Stand.of_body B)
  exact ⟨t, o, a1, b1, b2, b3⟩
theorem ax_blind {vs : List ax_V} : FrameBlind (ax_P G vs M) := by
  intro a U g mk h
  exact ⟨h.1, ax_KS.moved (State.WarmedH.refl U) (fun _ _ _ => rfl) h.2.1, h.2.2⟩
theorem ax_into {vs : List ax_V} {s U : State} {H : Heap} {locs : List Loc} (KS : ax_KS G s) (h0 : gSz G ≤ s.heap.size) (hR : ax_Rel G M H) (hS : va_S (ax_A G) s.heap H locs) (hU : U.heap = H) (hW : s.WarmedH U.vm) : ax_P G vs M (vs.map (ax_cv G)).toArray U :=
  ⟨rfl, KS.moved hW (fun a h1 h2 => by rw [hU]; exact hS.2.1 a h1 h2), by rw [hU]; exact Nat.le_trans h0 hS.1, by rw [hU]; exact hR⟩
/-- behind a call -/
theorem ax_after {p : Program} {e : Env} {R : Room} {s : State} {m : MethodId} {args a : Array Value} {below : List Frame} {meth : Method} {c : Code} {Q : State → Prop} {H : Heap} {locs : List Loc} {cells slots mc ms : Nat} {lc : Array Slot} {st0 rest : List Value}
    (hr : vx_Run p (gL G) e R s m args below meth c H locs cells slots mc ms (F0 m pc lc st0) rest (ax_Q G o M1 a) (ax_X G o M1) (ax_A G)) (hS : va_S (ax_A G) s.heap H locs)
    (kk : ∀ (ov : Option ax_V) (H1 : Heap) (locs1 : List Loc), o = .inl ov → ax_Rel G M1 H1 → va_S (ax_A G) s.heap H1 locs1 → W p (gL G) e R s m args below meth c H1 locs1 (cells + mc) (slots + ms) Q (F0 m (pc + 3) lc ((ov.map (ax_cv G)).toList ++ rest)))
    (kx : ∀ (E : String) (q : Addr) (ce : Cell) (H1 : Heap) (locs1 : List Loc), o = .inr E → ax_Rel G M1 H1 → va_S (ax_A G) s.heap H1 locs1 → H1[q]? = some ce → ce.vm = .none → s.vm.findClass E = some ce.cls → vx_W p (gL G) e R s m args below meth c H1 locs1 (cells + mc) (slots + ms) Q (F0 m pc lc rest) q) :
    W p (gL G) e R s m args below meth c H locs cells slots Q (F0 m pc lc st0) := by
  intro T hT X
  rcases hr T hT X with ⟨v, st₀, t, T', L, h0, X', hL, e1, e2, ⟨⟨ov, ho, hv, hR1⟩, hF⟩, st⟩ | ⟨q, st₀, t, T', L, E, ce, h0, X', hL, e1, e2, ⟨ho, hR1, hF⟩, hce, hcv, hcl, st⟩
  · cases hv
    obtain ⟨k1, k2, k3⟩ := vx_keep h0 e1 hS (fun q _ h => h) (fun q h => h) hL hF
    obtain ⟨t2, a1, b1⟩ := kk ov T'.heap (locs ++ L) ho (by rw [e1]; exact hR1) k3 T' rfl X'
    exact ⟨t2, st t2 a1, b1⟩
  · obtain ⟨k1, k2, k3⟩ := vx_keep h0 e1 hS (fun q _ h => h) (fun q h => h) hL hF
    obtain ⟨t2, a1, b1⟩ := kx E q ce T'.heap (locs ++ L) ho (by rw [e1]; exact hR1) k3 (by rw [e1]; exact hce) hcv hcl T' rfl X'
    exact ⟨t2, st.trans a1, b1⟩
/-- how a call runs: any kind -/
def ax_Ca (G : ax_G) (mt mt' : ax_T) (d pc : Nat) (vs rest : List ax_V) (M : ax_M) (o : Option ax_V ⊕ String) (M1 : ax_M) : Prop :=
  ∀ (p : Program) (e : Env) (R : Room) (s : State) (m : MethodId) (args : Array Value) (below : List Frame) (meth : Method) (c : Code) (H : Heap) (locs : List Loc) (cells slots : Nat) (lc : Array Slot),
    vx_Met (gL G) mt'.1 (ax_cw mt' :: ax_W) ⟨d, mSz M1 - mSz M, mSl M1 - mSl M, 40 * d⟩ (ax_P G vs M) (ax_Q G o M1) (ax_X G o M1) (mSz M1 - mSz M) (mSl M1 - mSl M) (ax_A G) →
    ax_C mt p s m args meth c → ax_KS G s → gSz G ≤ s.heap.size → d + 1 ≤ R.frames → 40 * (d + 1) ≤ R.locals → cells + (mSz M1 - mSz M) ≤ R.cells → slots + (mSl M1 - mSl M) ≤ R.slots → ax_Rel G M H → va_S (ax_A G) s.heap H locs → lc.size = c.maxLocals →
    vx_Run p (gL G) e R s m args below meth c H locs cells slots (mSz M1 - mSz M) (mSl M1 - mSl M) (F0 m pc lc ((vs.reverse ++ rest).map (ax_cv G))) (rest.map (ax_cv G)) (ax_Q G o M1 (vs.map (ax_cv G)).toArray) (ax_X G o M1) (ax_A G)
theorem ax_sub1 {a b c x n R : Nat} (h1 : a ≤ b) (h2 : b ≤ c) (e : x + (c - a) = n) (hn : n ≤ R) : x + (b - a) ≤ R ∧ x + (b - a) + (c - b) = n := by omega
/-- a call that returns -/
theorem x_call {mt' : ax_T} {vs rest : List ax_V} {n k : Nat} {ov : Option ax_V} (ca : ax_Ca G mt mt' d pc vs rest M (.inl ov) M1) (K : ax_Kn mt' n) (hlen : (ax_args vs).length + k = mt'.2.2.1) (hrt : ax_rt mt'.2.2.2.1 ov)
    (h : ax_Ex G mt' d 0 (ax_args vs ++ List.replicate k none) [] M (.inl ov) M1) (k' : ax_Ex G mt (d + 1) (pc + 3) ls (ov.toList ++ rest) M1 o M') :
    ax_Ex G mt (d + 1) pc ls (vs.reverse ++ rest) M o M' := by
  intro g hos hol
  have hvs : ax_oS vs := fun v hv => hos v (List.mem_append.mpr (Or.inl (List.mem_reverse.mpr hv)))
  have hrs : ax_oS rest := fun v hv => hos v (List.mem_append.mpr (Or.inr hv))
  have hM := ax_met (M := M) K hlen g hvs (fun ov' e => by cases e; exact hrt) h
  obtain ⟨⟨g1, hv1, s1, s2⟩, -⟩ := h g ax_oS_nil (ax_args_ok hvs k)
  obtain ⟨⟨g2, hv2, s3, s4⟩, hk⟩ := k' g1 (fun v hv => by
    rcases List.mem_append.mp hv with h9 | h9
    · cases ov with
      | none => cases h9
      | some w => rw [Option.toList_some, List.mem_singleton] at h9; subst h9; exact hv1 _ rfl
    · exact hrs v h9) hol
  refine ⟨⟨g2, hv2, Nat.le_trans s1 s3, Nat.le_trans s2 s4⟩, fun p e R s m args below meth c Q n1 n2 H locs cells slots lc C KS h0 hd' hl hc hs e1 e2 hR hS hL hF => ?_⟩
  obtain ⟨b1, b2⟩ := ax_sub1 s1 s3 e1 hc
  obtain ⟨b3, b4⟩ := ax_sub1 s2 s4 e2 hs
  refine ax_after (ca p e R s m args below meth c H locs cells slots lc hM C KS h0 hd' hl b1 b3 hR hS (hL.1.trans C.2.2.1.symm)) hS (fun ov' H1 locs1 ho hR1 hS1 => ?_) (fun E q ce H1 locs1 ho _ _ _ _ _ => by cases ho)
  cases ho
  have h9 := hk p e R s m args below meth c Q n1 n2 H1 locs1 (cells + (mSz M1 - mSz M)) (slots + (mSl M1 - mSl M)) lc C KS h0 hd' hl hc hs b2 b4 hR1 hS1 hL hF
  have e9 : ((ov.toList ++ rest).map (ax_cv G)) = (ov.map (ax_cv G)).toList ++ rest.map (ax_cv G) := by cases ov <;> rfl
  rw [e9] at h9
  exact h9
/-- a call that throws: it goes on to the caller -/
theorem x_thru {mt' : ax_T} {vs rest : List ax_V} {n k : Nat} {E : String} (ca : ax_Ca G mt mt' d pc vs rest M (.inr E) M1) (K : ax_Kn mt' n) (hlen : (ax_args vs).length + k = mt'.2.2.1) (hno : mt.2.2.2.2 = [])
    (h : ax_Ex G mt' d 0 (ax_args vs ++ List.replicate k none) [] M (.inr E) M1) :
    ax_Ex G mt (d + 1) pc ls (vs.reverse ++ rest) M (.inr E) M1 := by
  intro g hos hol
  have hvs : ax_oS vs := fun v hv => hos v (List.mem_append.mpr (Or.inl (List.mem_reverse.mpr hv)))
  have hM := ax_met (M := M) K hlen g hvs (fun ov' e => by cases e) h
  obtain ⟨⟨g1, hv1, s1, s2⟩, -⟩ := h g ax_oS_nil (ax_args_ok hvs k)
  refine ⟨⟨g1, fun v h => (by cases h), s1, s2⟩, fun p e R s m args below meth c Q n1 n2 H locs cells slots lc C KS h0 hd' hl hc hs e1 e2 hR hS hL hF => ?_⟩
  refine ax_after (ca p e R s m args below meth c H locs cells slots lc hM C KS h0 hd' hl (by omega) (by omega) hR hS (hL.1.trans C.2.2.1.symm)) hS (fun ov' H1 locs1 ho _ _ => by cases ho) (fun E' q ce H1 locs1 ho hR1 hS1 hce hcv hcl => ?_)
  cases ho
  obtain ⟨Qc, XC, rfl, hX⟩ := hF
  refine vx_out ?_ C.2.2.2.2.1 hce hcv hcl (fun t ht hA => hX t (by rw [ht]; exact hR1) (ax_vF hS1 ht) hA) hS1.2.2 (by omega) (by omega)
  rw [C.2.2.2.2.2.2.2.2, hno]
  intro x hx
  cases hx
end AXC
