/-! the machine's world at the start: classes, texts, and the whole of it -/
theorem wk_in {i : Nat} {w : Cond} (h : tables_1[i]? = some w) : w ∈ lw_tbl := List.mem_append.mpr (Or.inr (List.mem_of_getElem? h))
theorem wk_inst : ∀ t, t < 16 → ∃ n, Cond.instantiable (axR t) n ∈ lw_tbl := by
  have h : (List.range 16).all (fun t => tables_1.any (fun w => match w with | .instantiable C _ => decide (C = axR t) | _ => false)) = true := by decide +kernel
  intro t ht
  obtain ⟨w, hw, h1⟩ := List.any_eq_true.mp (List.all_eq_true.mp h t (List.mem_range.mpr ht))
  cases w with
  | instantiable C n =>
    have e : C = axR t := of_decide_eq_true h1
    rw [e] at hw
    exact ⟨n, List.mem_append.mpr (Or.inr hw)⟩
  | _ => exact Bool.noConfusion h1
theorem wk_cls {args : Array Value} {s : State} (hts : ∀ w ∈ lw_tbl, w.before args s = true) : ∃ f : Nat → ClassId × (Nat → Nat), ∀ t, t < 16 → u_Kn s (axR t) (axT t) (axN t) (f t).1 (f t).2 := by
  have h0 : ∀ t : Nat, ∃ q : ClassId × (Nat → Nat), t < 16 → u_Kn s (axR t) (axT t) (axN t) q.1 q.2 := by
    intro t
    by_cases ht : t < 16
    · obtain ⟨n, hi⟩ := wk_inst t ht
      by_cases h13 : t < 13
      · obtain ⟨cC, iS, hK⟩ := u_known (ws := ax_W) (fun w hw => hts w (List.mem_filter.mp hw).1) (ax_lays t h13) (hts _ hi)
        exact ⟨(cC, iS), fun _ => hK⟩
      · have e : axN t = 0 := by
          rcases (show t = 13 ∨ t = 14 ∨ t = 15 by omega) with rfl | rfl | rfl <;> rfl
        obtain ⟨cC, iS, hK⟩ := u_known (ws := lw_tbl) (T := axT t) (N := axN t) hts (fun w hw => by rw [e] at hw; cases hw) (hts _ hi)
        exact ⟨(cC, iS), fun _ => hK⟩
    · exact ⟨(0, fun _ => 0), fun h => absurd h ht⟩
  exact Classical.axiomOfChoice h0
theorem wk_prim {args : Array Value} {s : State} {ty : FieldType} (h : (Cond.arrayClass ty).before args s = true) : ∃ c, ArrOfT s c ty ∧ s.vm.findClass ("[" ++ ty.toString) = some c := by
  obtain ⟨c, k, comp, h1, h2, h3⟩ := Cond.arrayClass_spec h
  exact ⟨c, fun n z => ⟨fun k h => (by cases h), k, h2, comp, h3⟩, h1⟩
theorem wk_ovO {args : Array Value} {s : State} {C : String} (h : (Cond.arrayOver (.object C)).before args s = true) : ∃ c, ArrOfT s c (.object C) ∧ va_RA s c (.object C) := by
  obtain ⟨comp, c, k, h1, -, h2, h3, h4⟩ := Cond.arrayOver_spec h
  exact ⟨c, fun n z => ⟨fun k h => (by cases h), k, h2, comp, h3⟩, k, comp, h2, h3, h1, h4⟩
theorem wk_ovA {args : Array Value} {s : State} {t : FieldType} (h : (Cond.arrayOver (.array t)).before args s = true) : ∃ c, ArrOfT s c (.array t) ∧ s.vm.findClass ("[" ++ (FieldType.array t).toString) = some c := by
  simp only [Cond.before, Cond.holds, Cond.value, beq_iff_eq] at h
  cases hc : s.vm.findClass (FieldType.array t).toString with
  | none => simp [hc] at h
  | some comp =>
    simp only [hc, Option.bind_some, Option.bind_eq_some_iff, Option.map_eq_some_iff] at h
    obtain ⟨c, hi, k, hk, hb⟩ := h
    obtain ⟨hlt, hp, -⟩ := Array.findIdx?_eq_some_iff_getElem.mp hi
    have hkk : s.vm.classes[c] = k := (Array.getElem?_eq_some_iff.mp hk).2
    rw [hkk] at hp
    cases hkind : k.kind with
    | array component ty =>
      rw [hkind] at hb hp
      simp at hb hp
      exact ⟨c, fun n z => ⟨fun k h => (by cases h), k, hk, comp, by show k.kind = _; rw [hkind, hp, hb.1]⟩, hb.2⟩
    | _ => rw [hkind] at hb; simp at hb
theorem wk_arrs {args : Array Value} {s : State} (hts : ∀ w ∈ lw_tbl, w.before args s = true) : ∃ cA : Nat → ClassId, ∀ (k : Nat) (q : ClassId × FieldType), ([(cA 0, .int), (cA 1, .byte), (cA 2, .boolean), (cA 3, .long), (cA 4, .object "HexPond$Kind"), (cA 5, .array .int)] : List (ClassId × FieldType))[k]? = some q → ArrOfT s q.1 q.2 ∧ va_RA s q.1 q.2 := by
  obtain ⟨c0, a0, b0⟩ := wk_prim (hts _ (wk_in (i := 73) (w := .arrayClass .int) (by decide +kernel)))
  obtain ⟨c1, a1, b1⟩ := wk_prim (hts _ (wk_in (i := 51) (w := .arrayClass .byte) (by decide +kernel)))
  obtain ⟨c2, a2, b2⟩ := wk_prim (hts _ (wk_in (i := 1557) (w := .arrayClass .boolean) (by decide +kernel)))
  obtain ⟨c3, a3, b3⟩ := wk_prim (hts _ (wk_in (i := 2056) (w := .arrayClass .long) (by decide +kernel)))
  obtain ⟨c4, a4, b4⟩ := wk_ovO (hts _ (wk_in (i := 59) (w := .arrayOver (.object "HexPond$Kind")) (by decide +kernel)))
  obtain ⟨c5, a5, b5⟩ := wk_ovA (hts _ (wk_in (i := 266) (w := .arrayOver (.array .int)) (by decide +kernel)))
  refine ⟨fun n => match n with | 0 => c0 | 1 => c1 | 2 => c2 | 3 => c3 | 4 => c4 | _ => c5, fun k q hq => ?_⟩
  match k, hq with
  | 0, hq => cases hq; exact ⟨a0, b0⟩
  | 1, hq => cases hq; exact ⟨a1, b1⟩
  | 2, hq => cases hq; exact ⟨a2, b2⟩
  | 3, hq => cases hq; exact ⟨a3, b3⟩
  | 4, hq => cases hq; exact ⟨a4, b4⟩
  | 5, hq => cases hq; exact ⟨a5, b5⟩
  | k + 6, hq => simp at hq
theorem wkR_in : ∀ q ∈ axKs, Cond.stringRef q.1 q.2.1 q.2.2 ∈ lw_tbl := by
  have h : (axKs.zip wkR).all (fun z => decide (tables_1[z.2]? = some (Cond.stringRef z.1.1 z.1.2.1 z.1.2.2))) = true := by decide +kernel
  have hl : axKs.length = wkR.length := by decide +kernel
  intro q hq
  obtain ⟨i, hi, rfl⟩ := List.mem_iff_getElem.mp hq
  have hz : (axKs[i], wkR[i]'(hl ▸ hi)) ∈ axKs.zip wkR := by
    refine List.mem_iff_getElem.mpr ⟨i, by rw [List.length_zip, ← hl, Nat.min_self]; exact hi, by rw [List.getElem_zip]⟩
  exact wk_in (of_decide_eq_true (List.all_eq_true.mp h _ hz))
theorem wk_Ks {b : Nat} {s : State} (hg : wkC.before #[Value.ref b] s = true) (hts : ∀ w ∈ lw_tbl, w.before #[Value.ref b] s = true) : ∀ q ∈ axKs, ∃ a, vk_R q.1 q.2.1 q.2.2 a s := by
  intro q hq
  obtain ⟨cell, h1, -⟩ := wk_obj (wkChk_ok hg _ _ wk4_ok _ (List.mem_map.mpr ⟨q, hq, rfl⟩))
  exact ⟨_, vk_R.of (hts _ (wkR_in q hq)) h1⟩
theorem wk_ord {b : Nat} {s : State} (hg : wkC.before #[Value.ref b] s = true) (hb : b < s.heap.size) {i : Nat} (h1 : 10 ≤ i) (h2 : i < 52) : s.fieldOf? (wkac b s i) "java/lang/Enum" "ordinal" "I" = some (.int (Int32.ofNat (i - 10))) := by
  have hu : wkU i = true := by
    simp only [wkU, Bool.or_eq_true, Bool.and_eq_true, decide_eq_true_eq]
    omega
  have he := (wk_ev hg hb hu).1
  have hw := va_eqt (wk_2 hg (i := i - 10) (by omega) (w := .eq (.field (kt (10 + (i - 10))) "java/lang/Enum" "ordinal" "I") (.int (Int32.ofNat (i - 10)))) (by simp [wkO]))
  rw [show 10 + (i - 10) = i by omega] at hw
  rw [va_fe he] at hw
  exact hw
theorem wk_inj {b : Nat} {s : State} (hg : wkC.before #[Value.ref b] s = true) (hb : b < s.heap.size) : ∀ i j, 10 ≤ i → i < 52 → 10 ≤ j → j < 52 → wkac b s i = wkac b s j → i = j := by
  intro i j h1 h2 h3 h4 e
  have a1 := wk_ord hg hb h1 h2
  have a2 := wk_ord hg hb h3 h4
  rw [e, a2] at a1
  have e1 : Int32.ofNat (j - 10) = Int32.ofNat (i - 10) := Value.int.inj (Option.some.inj a1)
  have e2 := congrArg Int32.toNatClampNeg e1
  rw [Int32.toNatClampNeg_ofNat_of_lt (by omega), Int32.toNatClampNeg_ofNat_of_lt (by omega)] at e2
  omega
theorem wk_Nw {args : Array Value} {s : State} (hts : ∀ w ∈ lw_tbl, w.before args s = true) : ∀ w ∈ axNw, va_Nw w s := by
  intro w hw
  obtain ⟨h1, h2⟩ := List.mem_filter.mp hw
  have h := hts w h1
  cases w <;> first | exact va_Nw.of rfl h | exact h | cases h2
theorem wk_SF {l : Launch} {s : State} {b L : Nat} {xs : Nat → Int32} {dC : Nat → ClassId} {dI : Nat → Nat → Nat} {cA : Nat → ClassId} (hg : wkC.before #[Value.ref b] s = true) (hts : ∀ w ∈ lw_tbl, w.before #[Value.ref b] s = true) :
    ∃ q : Option Nat, va_Z "jdk/internal/util/Preconditions" "SIOOBE_FORMATTER" "Ljava/util/function/BiFunction;" (ax_rv (wkGl l s b L xs dC dI cA) q) (ax_A (wkGl l s b L xs dC dI cA)) s s.heap := by
  have hl := hts _ (wk_in (i := 420) (w := .laysStatic "jdk/internal/util/Preconditions" "SIOOBE_FORMATTER" "Ljava/util/function/BiFunction;") (by decide +kernel))
  have hini := hts _ (wk_in (i := 24) (w := .initialized "jdk/internal/util/Preconditions") (by decide +kernel))
  have h : (Cond.isRef wkSF).before #[Value.ref b] s = true := by
    rw [show Cond.isRef wkSF = wkG wkC 1585 by decide +kernel]
    exact wkG_ok wkC 1585 hg
  cases hv : wkSF.eval #[Value.ref b] s none [] s with
  | none => simp [Cond.before, Cond.holds, Cond.value, hv] at h
  | some w =>
    simp only [Cond.before, Cond.holds, Cond.value, hv] at h
    cases w with
    | null => exact ⟨none, va_Zof hl hini hv wk_nA⟩
    | ref t =>
      refine ⟨some 53, ?_⟩
      have e : ax_rv (wkGl l s b L xs dC dI cA) (some 53) = .ref t := by
        show Value.ref (ax_ad _ 53) = _
        rw [wk_ad (by decide), show wkac b s 53 = wkad #[.ref b] s wkSF from rfl, wkad_of hv]
      rw [e]
      exact va_Zof hl hini hv wk_nA
    | _ => simp at h
theorem wk_KS {l : Launch} {s : State} {b L : Nat} {xs : Nat → Int32} (hg : wkC.before #[Value.ref b] s = true) (hts : ∀ w ∈ lw_tbl, w.before #[Value.ref b] s = true) (hb : b < s.heap.size) (hX : va_X b L xs s s.heap) : ∃ dC dI cA, ax_KS (wkGl l s b L xs dC dI cA) s := by
  obtain ⟨f, hf⟩ := wk_cls hts
  obtain ⟨cA, hcA⟩ := wk_arrs hts
  refine ⟨fun t => (f t).1, fun t => (f t).2, cA, ⟨fun t q hq => ?_, fun k q hq => hcA k q hq⟩, wk_S hg hb hts, wk_K hg hb, ?_, wk_F hg hb, wk_R hg, ?_, ?_, wk_Ks hg hts, ?_, ?_, wk_inj hg hb, wk_Nw hts, ?_, wk_SF hg hts⟩
  · have ht : t < 16 := (List.getElem?_eq_some_iff.mp hq).1
    cases Option.some.inj ((axCl_at ht).symm.trans hq)
    exact hf t ht
  · obtain ⟨cell, h1, h2, h3, h4, h5⟩ := hX
    refine ⟨cell, ?_, h2, h3, h4, fun j hj => ?_, ?_⟩
    · rw [wk_ad (by decide)]; exact h1
    · rw [h5 j hj]
      show _ = some (Value.int (Int32.ofInt (xs j).toInt))
      rw [Int32.ofInt_toInt]
    · rw [wk_ad (by decide)]; exact wk_nA _ hb
  · exact vx_Zqof (hts _ (wk_in (i := 1090) (by decide +kernel))) (hts _ (wk_in (i := 15) (by decide +kernel))) (by
      rw [show Cond.isRef (.static Bundle.tN "UNASSIGNED_STACK" Bundle.steD) = wkG wkC 229 by decide +kernel]
      exact wkG_ok wkC 229 hg) wk_nA
  · exact vx_Zqof (hts _ (wk_in (i := 1092) (by decide +kernel))) (hts _ (wk_in (i := 15) (by decide +kernel))) (by
      rw [show Cond.isRef (.static Bundle.tN "SUPPRESSED_SENTINEL" Bundle.listD) = wkG wkC 741 by decide +kernel]
      exact wkG_ok wkC 741 hg) wk_nA
  · intro j
    have h1 := Int32.le_toInt (xs j)
    have h2 := Int32.toInt_lt (xs j)
    exact ⟨by show (-2147483648 : Int) ≤ (xs j).toInt; omega, by show (xs j).toInt < 2147483648; omega⟩
  · intro k hk h53
    exact wk_lt hg hb h53
  · intro q hq
    have e : q = ("java/lang/IllegalStateException", "java/lang/IndexOutOfBoundsException") := List.mem_singleton.mp hq
    subst e
    refine va_Nc.of (args := #[Value.ref b]) ?_
    rw [show Cond.not (.castable "java/lang/IllegalStateException" "java/lang/IndexOutOfBoundsException") = wkG wkC 429 by decide +kernel]
    exact wkG_ok wkC 429 hg
