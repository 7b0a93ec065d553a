/-! from what the Statement gives of the start to the machine's own start -/
/-- the names of the kinds, and the places of their texts -/
def wkN : List (String × Nat × Nat) := [("POND", 170, 436), ("BY", 176, 437), ("STONE", 179, 439), ("PLAN", 182, 440), ("RED_PLAYER", 185, 441), ("BLUE_PLAYER", 188, 443), ("WIN", 191, 445), ("GUARD", 194, 447), ("SAVE", 197, 449), ("NEAR", 200, 451), ("AT", 203, 453), ("WHEN", 206, 454), ("TURN", 209, 456), ("STONES", 212, 458), ("BRIDGES", 215, 460), ("FREE", 218, 461), ("NEEDS", 221, 463), ("WON", 224, 464), ("NOT", 227, 465), ("AND", 230, 467), ("OR", 233, 469), ("MIN", 236, 471), ("MAX", 239, 472), ("OPEN", 242, 0), ("CLOSE", 245, 0), ("SQUARE_OPEN", 248, 0), ("SQUARE_CLOSE", 251, 0), ("SEMICOLON", 254, 0), ("COMMA", 257, 0), ("PLUS", 260, 0), ("MINUS", 263, 0), ("TIMES", 266, 0), ("OVER", 269, 0), ("LESS", 272, 0), ("MORE", 275, 0), ("EQUAL", 278, 0), ("AT_MOST", 281, 0), ("AT_LEAST", 284, 0), ("NUMBER", 287, 0), ("END", 287, 0), ("WRONG", 287, 0), ("NEGATE", 287, 0)]
def wkP1 : List Nat := [257, 769, 1793, 129, 641, 1665, 385, 897, 65, 577, 1601, 321, 833, 1857, 193, 705, 1493, 981, 2005, 53, 565, 1589, 309, 821, 181, 693, 1717, 437, 949, 1973, 117, 629, 2041, 5, 517, 1541, 261, 773, 1797, 133, 645, 1669, 389, 901, 1925, 69, 581, 1605, 325, 837, 1861, 197, 709, 1733, 453, 1477, 965, 1989, 37, 549, 1573, 293, 805, 1829, 165, 677, 1701, 421, 933, 1957, 101, 613, 1637, 357, 869, 1893, 161, 673, 417, 929, 1953, 97, 609, 1633, 353, 865, 1889, 225, 737, 1761, 481, 1505, 993, 2017, 17, 529, 1553, 273, 785, 1809, 145, 657, 1681, 401, 913, 1937, 81, 593, 1617, 337, 849, 1873, 209, 721, 1745, 465, 1489, 977, 2001, 49, 485, 1509, 997, 2021, 21, 533, 1557, 277, 789, 1813, 149, 661, 1685, 405, 917, 1941, 85, 597, 1621, 341, 853, 1877, 213, 725, 1749, 1995, 4043, 43, 1067, 3115, 555, 299, 1323, 3371, 811, 3755, 427, 1451, 3499, 939, 2987, 1963, 1003, 3051, 2027, 4075, 27, 1051, 1131, 3179, 619, 1643, 3691, 3435, 875, 1899, 3947, 235, 1259, 1563, 3611, 283, 1307, 3355, 3867, 155, 1179, 3227, 667, 1691, 3739, 3483, 923, 2971, 1947, 3995, 91, 603, 1627, 3675, 347, 1371, 3419, 3931, 219, 1243, 3291, 3783, 455, 1479, 967, 1991, 4039, 3803, 475, 1499, 3547, 987, 3035, 3387, 827, 1851, 3899, 187, 1211, 3259, 699, 443, 1467, 3515, 955, 3003, 1979, 4027, 123, 1147, 59, 1083, 3131, 571, 1595, 3643, 1659, 3707, 379, 1403, 3451, 891, 1915, 103, 1127, 615, 1639, 3687, 551, 1575, 295, 1319, 807, 407, 1431, 919, 1943, 3991, 599, 1623, 3671, 343, 507, 1531, 3579, 1019, 3067, 7, 1031, 519, 1543, 263, 1799, 3847, 135, 1671, 3719, 391, 167, 1191, 679, 423, 1447, 935, 171, 1195, 3243, 1771, 3819, 491, 3911, 199, 1223, 1275, 3323, 763, 1927, 3975, 71, 1607, 327, 1351, 871, 1895, 3943, 743, 1767, 3815, 999, 2023, 4071, 535, 1559, 279, 1303, 3863, 151, 1175, 663, 1483, 3531, 1483, 3531, 1483, 3531, 1483, 3531]
def wkP2 : List Nat := [177, 689, 1713, 971, 3019, 433, 945, 1969, 1579, 3627, 369, 881, 1905, 683, 1707, 1545, 265, 777, 1515, 3563, 241, 753, 1777, 4011, 107, 497, 1521, 1009, 363, 1387, 1801, 137, 649, 3099, 539, 1673, 393, 905, 795, 1819, 1929, 73, 585, 411, 1435, 1609, 329, 841, 1115, 3163, 1865, 201, 713, 859, 1883, 89, 601, 1625, 711, 1735, 1737, 457, 1481, 731, 1755, 553, 1577, 297, 315, 1339, 809, 1833, 169, 1723, 3771, 969, 1993, 41, 2011, 4059, 681, 1705, 425, 3195, 635, 2009, 57, 569, 1959, 4007, 345, 857, 1881, 39, 1063, 1913, 249, 761, 1687, 3735, 1785, 505, 1529, 87, 1111, 873, 1897, 233, 1787, 3835, 745, 1769, 489, 2043, 4091, 1513, 1001, 2025, 1287, 775, 25, 537, 1561, 1159, 647, 217, 729, 1753, 1831, 3879, 473, 1497, 985, 1703, 3751, 113, 625, 1649, 1835, 3883, 2033, 9, 521, 3307, 747, 409, 921, 1945, 839, 1863, 937, 1961, 105, 3963, 251, 281, 793, 1817, 1415, 903, 153, 665, 1689, 1095, 583, 1593, 313, 825, 359, 1383, 1849, 185, 697, 231, 1255, 1721, 441, 953, 487, 1511, 1977, 121, 633, 23, 1047, 1657, 377, 889, 791, 1815, 961, 1985, 33, 3787, 459, 1729, 449, 1473, 3787, 459, 545, 1569, 289, 3787, 459, 617, 1641, 361, 3787, 459]
def wkP3 : List Nat := [3799, 1079, 695, 1143, 3959, 2039, 783, 911, 1359, 463, 559, 687, 1135, 751, 287, 3743, 3679, 735, 63, 3903, 1471, 3711, 767]
def wkP4 : List Nat := [109, 1949, 1789, 1155, 1603, 35, 3491, 3555, 3667, 3635, 1907, 651]
def wkL : List (Nat × Nat) := [(174, 1), (176, 1), (1806, 13), (1808, 13), (896, 29), (390, 1), (1608, 13), (404, 22), (464, 21), (479, 21), (488, 21), (504, 21), (498, 21), (500, 21), (518, 21), (520, 21), (522, 21), (524, 21), (526, 21), (580, 21), (548, 21), (552, 21), (554, 21), (550, 21), (556, 21), (600, 21), (594, 21), (616, 21), (618, 21), (562, 21), (564, 21), (570, 21), (572, 21), (596, 21), (598, 21), (481, 21), (502, 21), (578, 21), (558, 21), (574, 21), (576, 21), (606, 21), (608, 21), (610, 21), (612, 21), (614, 21), (386, 21), (384, 21), (388, 21), (560, 21)]
def wkR : List Nat := [1104, 1151, 1178, 1197, 1209, 1228, 1318, 1327, 1350, 1358, 1373, 1381]
def wkC : Cond := .and given_1 narrow_1
/-- one word of a tree of words, by its path -/
def wkG : Cond → Nat → Cond
  | .and a b, n => if n % 2 = 0 then wkG a (n / 2) else wkG b (n / 2)
  | c, _ => c
theorem wkG_ok {args : Array Value} {s : State} (T : Cond) : ∀ n : Nat, T.before args s = true → (wkG T n).before args s = true := by
  induction T with
  | and a b iha ihb =>
    intro n h
    rw [Cond.before_and, Bool.and_eq_true] at h
    simp only [wkG]
    split
    · exact iha _ h.1
    · exact ihb _ h.2
  | _ => intro n h; exact h
def wkChk : List Cond → List Nat → Bool
  | [], [] => true
  | w :: ws, n :: ns => decide (wkG wkC n = w) && wkChk ws ns
  | _, _ => false
theorem wkChk_ok {args : Array Value} {s : State} (hg : wkC.before args s = true) : ∀ (ws : List Cond) (ns : List Nat), wkChk ws ns = true → ∀ w ∈ ws, w.before args s = true
  | [], [], _, w, hw => absurd hw List.not_mem_nil
  | [], _ :: _, h, _, _ => by cases h
  | _ :: _, [], h, _, _ => by cases h
  | w0 :: ws, n :: ns, h, w, hw => by
    have h := Bool.and_eq_true_iff.mp h
    rcases List.mem_cons.mp hw with rfl | hw
    · rw [← of_decide_eq_true h.1]
      exact wkG_ok _ _ hg
    · exact wkChk_ok hg ws ns h.2 w hw
def wkn (i : Nat) : String × Nat × Nat := (wkN[i]?).getD ("", 0, 0)
/-- the term that names a constant -/
def kt (k : Nat) : Term :=
  if k = 0 then .arg 0 else if k < 8 then (([.static "HexPond" "COLUMN_STEPS" "[I", .static "HexPond" "ROW_STEPS" "[I", .static "HexPondModel" "ACROSS" "[I", .static "HexPondModel" "DOWN" "[I", .static "HexPond$1" "$SwitchMap$HexPond$Kind" "[I", .static "HexPond" "KINDS" "[LHexPond$Kind;", .static "HexPondModel" "WORDS" "[Ljava/lang/String;"] : List Term)[k - 1]?).getD (.arg 0)
  else if k < 60 then .static "HexPond$Kind" (wkn (k - 10)).1 "LHexPond$Kind;"
  else if k < 102 then .string "HexPond$Kind" (wkn (k - 60)).2.1
  else .field (.string "HexPond$Kind" (wkn (k - 102)).2.1) "java/lang/String" "value" "[B"
def wkv (k : Nat) (v : ax_V) : Term := match v with
  | .inl n => .int (Int32.ofInt n)
  | .inr (.inl (some r)) => if k = 7 then .string "HexPondModel" (wkn (r - 60)).2.2 else kt r
  | _ => .arg 0
def wkE (k : Nat) : Nat → List ax_V → List Cond
  | _, [] => []
  | j, v :: t => .eq (.elem (kt k) (.int (Int32.ofNat j))) (wkv k v) :: wkE k (j + 1) t
theorem wkE_mem {k : Nat} : ∀ (l : List ax_V) (j0 j : Nat) (v : ax_V), l[j]? = some v → Cond.eq (.elem (kt k) (.int (Int32.ofNat (j0 + j)))) (wkv k v) ∈ wkE k j0 l
  | [], _, _, _, h => by simp at h
  | x :: t, j0, 0, v, h => by
    have e : x = v := by simpa using h
    subst e
    exact List.mem_cons_self
  | x :: t, j0, j + 1, v, h => by
    have h1 := wkE_mem (k := k) t (j0 + 1) j v (by simpa using h)
    rw [show j0 + 1 + j = j0 + (j + 1) by omega] at h1
    exact List.mem_cons_of_mem _ h1
def wkA (q : Nat × FieldType × List ax_V) : List Cond := .arrayOf (kt q.1) q.2.1 :: .eq (.length (kt q.1)) (.int (Int32.ofNat q.2.2.length)) :: wkE q.1 0 q.2.2
def wk1 : List Cond := axKa.flatMap wkA
theorem wk1_ok : wkChk wk1 wkP1 = true := by decide +kernel
def wkO (i : Nat) : List Cond := [.exactly (kt (10 + i)) "HexPond$Kind", .eq (.field (kt (10 + i)) "java/lang/Enum" "ordinal" "I") (.int (Int32.ofNat i)), .eq (.field (kt (10 + i)) "HexPond$Kind" "text" "Ljava/lang/String;") (kt (60 + i)), .exactly (kt (60 + i)) "java/lang/String", .eq (.field (kt (60 + i)) "java/lang/String" "coder" "B") (.int 0)]
def wk2 : List Cond := (List.range 42).flatMap wkO
theorem wk2_ok : wkChk wk2 wkP2 = true := by decide +kernel
def wk3 : List Cond := (List.range 23).map (fun i => Cond.eq (kt (60 + i)) (.string "HexPondModel" (wkn i).2.2))
theorem wk3_ok : wkChk wk3 wkP3 = true := by decide +kernel
def wk4 : List Cond := axKs.map (fun q => Cond.exactly (.string q.1 q.2.1) "java/lang/String")
theorem wk4_ok : wkChk wk4 wkP4 = true := by decide +kernel
/-! what terms name -/
def wkad (args : Array Value) (s : State) (t : Term) : Nat := match t.eval args s none [] s with | some (.ref a) => a | _ => 0
theorem wkad_of {args : Array Value} {s : State} {t : Term} {a : Nat} (h : t.eval args s none [] s = some (.ref a)) : wkad args s t = a := by
  unfold wkad
  rw [h]
theorem wk_eqr {args : Array Value} {s : State} {t u : Term} {a : Nat} (h : (Cond.eq t u).before args s = true) (hu : u.eval args s none [] s = some (.ref a)) : t.eval args s none [] s = some (.ref a) := by
  cases hv : t.eval args s none [] s with
  | none => simp [Cond.before, Cond.holds, Cond.value, hv] at h
  | some w =>
    simp only [Cond.before, Cond.holds, Cond.value, hv, hu] at h
    cases w <;> simp_all
theorem wk_eql {args : Array Value} {s : State} {t u : Term} {a : Nat} (h : (Cond.eq t u).before args s = true) (ht : t.eval args s none [] s = some (.ref a)) : u.eval args s none [] s = some (.ref a) := by
  cases hv : u.eval args s none [] s with
  | none => simp [Cond.before, Cond.holds, Cond.value, hv, ht] at h
  | some w =>
    simp only [Cond.before, Cond.holds, Cond.value, hv, ht] at h
    cases w <;> simp_all
theorem wk_len {args : Array Value} {s : State} {t : Term} {v : Value} (h : (Term.length t).eval args s none [] s = some v) : ∃ a cell, t.eval args s none [] s = some (.ref a) ∧ s.arrayAt? a = some cell ∧ v = .int cell.slots.size.toInt32 ∧ cell.slots.size < 2147483648 := by
  obtain ⟨a, cell, h1, h2, h3⟩ := Term.length_spec h
  refine ⟨a, cell, h1, h2, h3, ?_⟩
  by_cases hn : cell.slots.size < 2147483648
  · exact hn
  · simp [Term.eval, h1, h2, hn] at h
theorem wk_arr {args : Array Value} {s : State} {tm : Term} {ty : FieldType} {N : Nat} {f : Nat → Value} (hN : N < 2 ^ 31) (harr : (Cond.arrayOf tm ty).before args s = true) (hlen : (Cond.eq (.length tm) (.int (Int32.ofNat N))).before args s = true) (hel : ∀ j : Nat, j < N → (Term.elem tm (.int (Int32.ofNat j))).eval args s none [] s = some (f j)) :
    ∃ cell : Cell, tm.eval args s none [] s = some (.ref (wkad args s tm)) ∧ s.heap[wkad args s tm]? = some cell ∧ s.isArrayOf cell ty ∧ cell.vm ≠ .unknown ∧ cell.slots.size = N ∧ ∀ j : Nat, j < N → cell.slots[j]? = some (f j) := by
  obtain ⟨t, cell, ht, hat, hv, hlt⟩ := wk_len (va_eqt hlen)
  obtain ⟨hcell, hkn, -, -⟩ := State.arrayAt?_spec hat
  obtain ⟨hof, -⟩ := Cond.arrayOf_spec harr ht hcell
  have key : ∀ j : Nat, j < N → cell.slots[j]? = some (f j) := by
    intro j hj
    obtain ⟨a, i, cell2, h1, h2, h3, h4, h5⟩ := Term.elem_spec (hel j hj)
    cases ht.symm.trans h1
    cases hat.symm.trans h3
    have hi : i = Int32.ofNat j := by
      have e : (Term.int (Int32.ofNat j)).eval args s none [] s = some (.int (Int32.ofNat j)) := rfl
      cases h2.symm.trans e
      rfl
    have hc : i.toNatClampNeg = j := by rw [hi]; exact Int32.toNatClampNeg_ofNat_of_lt (Nat.lt_trans hj hN)
    rw [hc] at h5
    exact h5
  have hsz : cell.slots.size = N := by
    have e1 : Int32.ofNat cell.slots.size = Int32.ofNat N := (Value.int.inj hv).symm
    have e2 := congrArg Int32.toNatClampNeg e1
    rw [Int32.toNatClampNeg_ofNat_of_lt hlt, Int32.toNatClampNeg_ofNat_of_lt hN] at e2
    exact e2
  refine ⟨cell, ?_, ?_, hof, hkn, hsz, key⟩ <;> rw [wkad_of ht]
  · exact ht
  · exact hcell
theorem wk_obj {args : Array Value} {s : State} {t : Term} {C : String} (h : (Cond.exactly t C).before args s = true) : ∃ cell : Cell, t.eval args s none [] s = some (.ref (wkad args s t)) ∧ s.heap[wkad args s t]? = some cell ∧ cell.vm.isStatics = false ∧ s.vm.findClass C = some cell.cls := by
  obtain ⟨a, c, cell, k, q1, q2, q3, q4, q5, q6, -⟩ := Cond.exactly_spec h
  refine ⟨cell, ?_, ?_, q5, ?_⟩
  · rw [wkad_of q1]; exact q1
  · rw [wkad_of q1]; exact q3
  · rw [q6]; exact q2
/-! the constants' addresses -/
def wkU (k : Nat) : Bool := decide (k < 8) || (decide (10 ≤ k) && decide (k < 52)) || (decide (60 ≤ k) && decide (k < 144))
def wkSF : Term := .static "jdk/internal/util/Preconditions" "SIOOBE_FORMATTER" "Ljava/util/function/BiFunction;"
def wkac (b : Nat) (s : State) (k : Nat) : Nat := if k = 0 then b else if k = 53 then wkad #[.ref b] s wkSF else if wkU k = true then wkad #[.ref b] s (kt k) else b
section WK
variable {b : Nat} {s : State}
theorem wk_1 (hg : wkC.before #[Value.ref b] s = true) {q : Nat × FieldType × List ax_V} (hq : q ∈ axKa) {w : Cond} (hw : w ∈ wkA q) : w.before #[Value.ref b] s = true :=
  wkChk_ok hg _ _ wk1_ok w (List.mem_flatMap.mpr ⟨q, hq, hw⟩)
theorem wk_2 (hg : wkC.before #[Value.ref b] s = true) {i : Nat} (hi : i < 42) {w : Cond} (hw : w ∈ wkO i) : w.before #[Value.ref b] s = true :=
  wkChk_ok hg _ _ wk2_ok w (List.mem_flatMap.mpr ⟨i, List.mem_range.mpr hi, hw⟩)
theorem wk_kind (hg : wkC.before #[Value.ref b] s = true) {i : Nat} (hi : i < 42) : ∃ cell : Cell, (kt (10 + i)).eval #[Value.ref b] s none [] s = some (.ref (wkad #[Value.ref b] s (kt (10 + i)))) ∧ s.heap[wkad #[Value.ref b] s (kt (10 + i))]? = some cell ∧ cell.vm.isStatics = false ∧ s.vm.findClass "HexPond$Kind" = some cell.cls :=
  wk_obj (wk_2 hg hi (by simp [wkO]))
theorem wk_str (hg : wkC.before #[Value.ref b] s = true) {i : Nat} (hi : i < 42) : ∃ cell : Cell, (kt (60 + i)).eval #[Value.ref b] s none [] s = some (.ref (wkad #[Value.ref b] s (kt (60 + i)))) ∧ s.heap[wkad #[Value.ref b] s (kt (60 + i))]? = some cell ∧ cell.vm.isStatics = false ∧ s.vm.findClass "java/lang/String" = some cell.cls :=
  wk_obj (wk_2 hg hi (by simp [wkO]))
theorem wk_arl (hg : wkC.before #[Value.ref b] s = true) {q : Nat × FieldType × List ax_V} (hq : q ∈ axKa) : (kt q.1).eval #[Value.ref b] s none [] s = some (.ref (wkad #[Value.ref b] s (kt q.1))) ∧ wkad #[Value.ref b] s (kt q.1) < s.heap.size := by
  obtain ⟨a, cell, h1, h2, -, -⟩ := wk_len (va_eqt (wk_1 hg hq (w := .eq (.length (kt q.1)) (.int (Int32.ofNat q.2.2.length))) (by simp [wkA])))
  rw [wkad_of h1]
  exact ⟨h1, (Array.getElem?_eq_some_iff.mp (State.arrayAt?_spec h2).1).1⟩
theorem wk_ka {k : Nat} (h : (1 ≤ k ∧ k < 8) ∨ (102 ≤ k ∧ k < 144)) : ∃ q ∈ axKa, q.1 = k := by
  have h1 : (List.range 144).all (fun k => !(decide (1 ≤ k ∧ k < 8) || decide (102 ≤ k)) || axKa.any (fun q => q.1 == k)) = true := by decide +kernel
  have h2 := List.all_eq_true.mp h1 k (List.mem_range.mpr (by omega))
  have h3 : (decide (1 ≤ k ∧ k < 8) || decide (102 ≤ k)) = true := by
    rcases h with h | h
    · rw [decide_eq_true h]; rfl
    · rw [decide_eq_true h.1, Bool.or_true]
  rw [h3] at h2
  obtain ⟨q, hq, e⟩ := List.any_eq_true.mp h2
  exact ⟨q, hq, by simpa using e⟩
/-- each constant that is used stands in the heap -/
theorem wk_ev (hg : wkC.before #[Value.ref b] s = true) (hb : b < s.heap.size) {k : Nat} (hk : wkU k = true) : (kt k).eval #[Value.ref b] s none [] s = some (.ref (wkac b s k)) ∧ wkac b s k < s.heap.size := by
  by_cases h0 : k = 0
  · subst h0
    exact ⟨rfl, hb⟩
  · have h53 : k ≠ 53 := by
      rintro rfl
      cases hk
    have e : wkac b s k = wkad #[Value.ref b] s (kt k) := by
      unfold wkac
      rw [if_neg h0, if_neg h53, if_pos hk]
    rw [e]
    have hk' : ((1 ≤ k ∧ k < 8) ∨ (102 ≤ k ∧ k < 144)) ∨ (10 ≤ k ∧ k < 52) ∨ (60 ≤ k ∧ k < 102) := by
      simp only [wkU, Bool.or_eq_true, Bool.and_eq_true, decide_eq_true_eq] at hk
      omega
    rcases hk' with h | h | h
    · obtain ⟨q, hq, rfl⟩ := wk_ka h
      exact wk_arl hg hq
    · obtain ⟨cell, h1, h2, -⟩ := wk_kind hg (i := k - 10) (by omega)
      rw [show 10 + (k - 10) = k by omega] at h1 h2
      exact ⟨h1, (Array.getElem?_eq_some_iff.mp h2).1⟩
    · obtain ⟨cell, h1, h2, -⟩ := wk_str hg (i := k - 60) (by omega)
      rw [show 60 + (k - 60) = k by omega] at h1 h2
      exact ⟨h1, (Array.getElem?_eq_some_iff.mp h2).1⟩
theorem wk_lt (hg : wkC.before #[Value.ref b] s = true) (hb : b < s.heap.size) {k : Nat} (hk : k ≠ 53) : wkac b s k < s.heap.size := by
  by_cases h : wkU k = true
  · exact (wk_ev hg hb h).2
  · have e : wkac b s k = b := by
      unfold wkac
      by_cases h0 : k = 0
      · rw [if_pos h0]
      · rw [if_neg h0, if_neg hk, if_neg h]
    rw [e]
    exact hb
end WK
/-! the machine's world at the start -/
def wkGl (l : Launch) (s : State) (b L : Nat) (xs : Nat → Int32) (dC : Nat → ClassId) (dI : Nat → Nat → Nat) (cA : Nat → ClassId) : ax_G := (l, s.heap.size, dC, dI, cA, wkac b s, L, fun j => (xs j).toInt, fun _ => false)
section WKG
variable {l : Launch} {s : State} {b L : Nat} {xs : Nat → Int32} {dC : Nat → ClassId} {dI : Nat → Nat → Nat} {cA : Nat → ClassId}
theorem wk_ad {k : Nat} (h : k < 150) : ax_ad (wkGl l s b L xs dC dI cA) k = wkac b s k := if_pos h
theorem wk_nA : ∀ a : Nat, a < s.heap.size → ¬ ax_A (wkGl l s b L xs dC dI cA) a := fun a h q => absurd (show s.heap.size ≤ a from q) (Nat.not_le.mpr h)
theorem wk_cvR {r : Nat} (h : r < 150) : ax_cv (wkGl l s b L xs dC dI cA) (vR r) = .ref (wkac b s r) := by
  show Value.ref (ax_ad _ r) = _
  rw [wk_ad h]
/-- what arrays hold: numbers, kinds, texts -/
def wkV (k : Nat) (v : ax_V) : Bool := match v with
  | .inl _ => true
  | .inr (.inl (some r)) => (decide (k = 6) && (decide (10 ≤ r) && decide (r < 52))) || (decide (k = 7) && (decide (60 ≤ r) && decide (r < 83)))
  | _ => false
theorem wkV_ok : ∀ q ∈ axKa, (∀ v ∈ q.2.2, wkV q.1 v = true) ∧ q.2.2.length ≤ 100 ∧ wkU q.1 = true ∧ q.1 ≠ 0 ∧ q.1 < 150 ∧ q.1 ≠ 53 := by
  have h : axKa.all (fun q => q.2.2.all (wkV q.1) && (decide (q.2.2.length ≤ 100) && (wkU q.1 && (decide (q.1 ≠ 0) && (decide (q.1 < 150) && decide (q.1 ≠ 53)))))) = true := by decide +kernel
  intro q hq
  have h1 := List.all_eq_true.mp h q hq
  simp only [Bool.and_eq_true, decide_eq_true_eq] at h1
  exact ⟨fun v hv => List.all_eq_true.mp h1.1 v hv, h1.2⟩
theorem wk_val (hg : wkC.before #[Value.ref b] s = true) (hb : b < s.heap.size) {k : Nat} {v : ax_V} (hv : wkV k v = true) {t : Term} (ht : (Cond.eq t (wkv k v)).before #[Value.ref b] s = true) : t.eval #[Value.ref b] s none [] s = some (ax_cv (wkGl l s b L xs dC dI cA) v) := by
  rcases v with n | (_ | r) | x | x
  · exact va_eqt ht
  · cases hv
  · simp only [wkV, Bool.or_eq_true, Bool.and_eq_true, decide_eq_true_eq] at hv
    have hr : wkU r = true ∧ r < 150 := by
      refine ⟨?_, by omega⟩
      simp only [wkU, Bool.or_eq_true, Bool.and_eq_true, decide_eq_true_eq]
      omega
    show t.eval _ _ _ _ _ = some (ax_cv _ (vR r))
    rw [wk_cvR hr.2]
    have he := (wk_ev hg hb hr.1).1
    by_cases h7 : k = 7
    · have e : wkv k (.inr (.inl (some r))) = .string "HexPondModel" (wkn (r - 60)).2.2 := by
        show (if k = 7 then _ else _) = _
        rw [if_pos h7]
      rw [e] at ht
      have hw : (Cond.eq (kt (60 + (r - 60))) (.string "HexPondModel" (wkn (r - 60)).2.2)).before #[Value.ref b] s = true :=
        wkChk_ok hg _ _ wk3_ok _ (List.mem_map.mpr ⟨r - 60, List.mem_range.mpr (by omega), rfl⟩)
      rw [show 60 + (r - 60) = r by omega] at hw
      exact wk_eqr ht (wk_eql hw he)
    · have e : wkv k (.inr (.inl (some r))) = kt r := by
        show (if k = 7 then _ else _) = _
        rw [if_neg h7]
      rw [e] at ht
      exact wk_eqr ht he
  · cases hv
  · cases hv
/-- the constants that are arrays -/
theorem wk_K (hg : wkC.before #[Value.ref b] s = true) (hb : b < s.heap.size) : ∀ q ∈ axKa, ax_K (wkGl l s b L xs dC dI cA) s s.heap q.1 q.2.1 q.2.2.length (fun j => ax_cv (wkGl l s b L xs dC dI cA) (q.2.2.getD j (vI 0))) := by
  intro q hq
  obtain ⟨h1, h2, h3, h4, h5, h6⟩ := wkV_ok q hq
  have e : wkac b s q.1 = wkad #[Value.ref b] s (kt q.1) := by
    unfold wkac
    rw [if_neg h4, if_neg h6, if_pos h3]
  obtain ⟨cell, -, g2, g3, g4, g5, g6⟩ := wk_arr (f := fun j => ax_cv (wkGl l s b L xs dC dI cA) (q.2.2.getD j (vI 0))) (by omega) (wk_1 hg hq (w := .arrayOf (kt q.1) q.2.1) (by simp [wkA])) (wk_1 hg hq (w := .eq (.length (kt q.1)) (.int (Int32.ofNat q.2.2.length))) (by simp [wkA])) (fun j hj => by
    have hj1 := List.getElem?_eq_getElem hj
    have hw := wkE_mem (k := q.1) q.2.2 0 j _ hj1
    rw [Nat.zero_add] at hw
    have hb1 := wk_1 hg hq (w := _) (List.mem_cons_of_mem _ (List.mem_cons_of_mem _ hw))
    have := wk_val (l := l) (L := L) (xs := xs) (dC := dC) (dI := dI) (cA := cA) hg hb (h1 _ (List.getElem_mem hj)) hb1
    rw [this]
    show some (ax_cv _ _) = some (ax_cv _ (q.2.2.getD j (vI 0)))
    rw [List.getD_eq_getElem?_getD, hj1]
    rfl)
  rw [← e] at g2
  refine ⟨cell, ?_, g3, g4, g5, g6, ?_⟩
  · rw [wk_ad h5]; exact g2
  · rw [wk_ad h5]; exact wk_nA _ (Array.getElem?_eq_some_iff.mp g2).1
/-- statics -/
def wkSq (q : String × String × String × ax_V) : Bool := match q.2.2.2 with
  | .inl n => decide (q.1 = "java/lang/String" ∧ q.2.1 = "COMPACT_STRINGS" ∧ q.2.2.1 = "Z" ∧ n = 1)
  | .inr (.inl (some r)) => wkU r && decide (r < 150) && decide (kt r = .static q.1 q.2.1 q.2.2.1)
  | _ => false
theorem wkS_ok : ∀ q ∈ axS, wkSq q = true := by
  have h : axS.all wkSq = true := by decide +kernel
  exact fun q hq => List.all_eq_true.mp h q hq
theorem wkS_in : ∀ q ∈ axS, Cond.laysStatic q.1 q.2.1 q.2.2.1 ∈ lw_tbl ∧ Cond.initialized q.1 ∈ lw_tbl := by
  have h : (axS.zip wkL).all (fun z => decide (tables_1[z.2.1]? = some (Cond.laysStatic z.1.1 z.1.2.1 z.1.2.2.1)) && decide (tables_1[z.2.2]? = some (Cond.initialized z.1.1))) = true := by decide +kernel
  have hl : axS.length = wkL.length := by decide +kernel
  intro q hq
  obtain ⟨i, hi, rfl⟩ := List.mem_iff_getElem.mp hq
  have hz : (axS[i], wkL[i]'(hl ▸ hi)) ∈ axS.zip wkL := by
    refine List.mem_iff_getElem.mpr ⟨i, by rw [List.length_zip, ← hl, Nat.min_self]; exact hi, by rw [List.getElem_zip]⟩
  have h1 := List.all_eq_true.mp h _ hz
  simp only [Bool.and_eq_true, decide_eq_true_eq] at h1
  exact ⟨List.mem_append.mpr (Or.inr (List.mem_of_getElem? h1.1)), List.mem_append.mpr (Or.inr (List.mem_of_getElem? h1.2))⟩
theorem wk_S (hg : wkC.before #[Value.ref b] s = true) (hb : b < s.heap.size) (hts : ∀ w ∈ lw_tbl, w.before #[Value.ref b] s = true) : ∀ q ∈ axS, va_Z q.1 q.2.1 q.2.2.1 (ax_cv (wkGl l s b L xs dC dI cA) q.2.2.2) (ax_A (wkGl l s b L xs dC dI cA)) s s.heap := by
  intro q hq
  obtain ⟨h1, h2⟩ := wkS_in q hq
  refine va_Zof (hts _ h1) (hts _ h2) ?_ wk_nA
  have h3 := wkS_ok q hq
  obtain ⟨C, n, d, v⟩ := q
  rcases v with z | (_ | r) | x | x
  · simp only [wkSq, decide_eq_true_eq] at h3
    obtain ⟨rfl, rfl, rfl, rfl⟩ := h3
    exact va_eqi (wkG_ok wkC 561 hg)
  · cases h3
  · simp only [wkSq, Bool.and_eq_true, decide_eq_true_eq] at h3
    show _ = some (ax_cv _ (vR r))
    rw [wk_cvR h3.1.2, ← h3.2]
    exact (wk_ev hg hb h3.1.1).1
  · cases h3
  · cases h3
/-- fields of the constants -/
def wkFq (q : Nat × String × String × String × ax_V) : Bool :=
  wkU q.1 && decide (q.1 < 150) && (match q.2.2.2.2 with
    | .inl n => (List.range 42).any (fun i => decide (Cond.eq (.field (kt q.1) q.2.1 q.2.2.1 q.2.2.2.1) (.int (Int32.ofInt n)) ∈ wkO i))
    | .inr (.inl (some r)) => wkU r && decide (r < 150) && (decide (Term.field (kt q.1) q.2.1 q.2.2.1 q.2.2.2.1 = kt r) || (List.range 42).any (fun i => decide (Cond.eq (.field (kt q.1) q.2.1 q.2.2.1 q.2.2.2.1) (kt r) ∈ wkO i)))
    | _ => false)
theorem wkF_ok : ∀ q ∈ axKf, wkFq q = true := by
  have h : axKf.all wkFq = true := by decide +kernel
  exact fun q hq => List.all_eq_true.mp h q hq
theorem wk_F (hg : wkC.before #[Value.ref b] s = true) (hb : b < s.heap.size) : ∀ q ∈ axKf, va_OF q.2.1 q.2.2.1 q.2.2.2.1 (ax_cv (wkGl l s b L xs dC dI cA) q.2.2.2.2) (ax_ad (wkGl l s b L xs dC dI cA) q.1) (ax_A (wkGl l s b L xs dC dI cA)) s s.heap := by
  intro q hq
  have h := wkF_ok q hq
  obtain ⟨k, o, n, d, v⟩ := q
  simp only [wkFq, Bool.and_eq_true, decide_eq_true_eq] at h
  obtain ⟨⟨h1, h2⟩, h3⟩ := h
  show va_OF o n d _ (ax_ad _ k) _ _ _
  rw [wk_ad h2]
  refine vk_OFof (wk_ev hg hb h1).1 ?_ wk_nA
  rcases v with z | (_ | r) | x | x
  · obtain ⟨i, hi, hw⟩ := List.any_eq_true.mp h3
    exact va_eqt (wk_2 hg (List.mem_range.mp hi) (of_decide_eq_true hw))
  · cases h3
  · simp only [Bool.and_eq_true, Bool.or_eq_true, decide_eq_true_eq] at h3
    obtain ⟨⟨h4, h5⟩, h6⟩ := h3
    show _ = some (ax_cv _ (vR r))
    rw [wk_cvR h5]
    rcases h6 with h6 | h6
    · rw [h6]
      exact (wk_ev hg hb h4).1
    · obtain ⟨i, hi, hw⟩ := List.any_eq_true.mp h6
      exact wk_eqr (wk_2 hg (List.mem_range.mp hi) (of_decide_eq_true hw)) (wk_ev hg hb h4).1
  · cases h3
  · cases h3
/-- the constants that are objects -/
theorem wk_R (hg : wkC.before #[Value.ref b] s = true) : ∀ q ∈ axKc, ax_Kr (wkGl l s b L xs dC dI cA) s s.heap q.1 q.2 := by
  have h : axKc.all (fun q => (decide (10 ≤ q.1) && decide (q.1 < 52) && decide (q.2 = "HexPond$Kind")) || (decide (60 ≤ q.1) && decide (q.1 < 102) && decide (q.2 = "java/lang/String"))) = true := by decide +kernel
  intro q hq
  have h1 := List.all_eq_true.mp h q hq
  simp only [Bool.or_eq_true, Bool.and_eq_true, decide_eq_true_eq] at h1
  have e : wkac b s q.1 = wkad #[Value.ref b] s (kt q.1) := by
    unfold wkac
    have hu : wkU q.1 = true := by
      simp only [wkU, Bool.or_eq_true, Bool.and_eq_true, decide_eq_true_eq]
      omega
    rw [if_neg (by omega), if_neg (by omega), if_pos hu]
  have key : ∃ cell : Cell, s.heap[wkac b s q.1]? = some cell ∧ cell.vm.isStatics = false ∧ s.vm.findClass q.2 = some cell.cls := by
    rw [e]
    rcases h1 with ⟨⟨g1, g2⟩, g3⟩ | ⟨⟨g1, g2⟩, g3⟩
    · obtain ⟨cell, -, h2, h3, h4⟩ := wk_kind hg (i := q.1 - 10) (by omega)
      rw [show 10 + (q.1 - 10) = q.1 by omega] at h2
      exact ⟨cell, h2, h3, by rw [g3]; exact h4⟩
    · obtain ⟨cell, -, h2, h3, h4⟩ := wk_str hg (i := q.1 - 60) (by omega)
      rw [show 60 + (q.1 - 60) = q.1 by omega] at h2
      exact ⟨cell, h2, h3, by rw [g3]; exact h4⟩
  obtain ⟨cell, k1, k2, k3⟩ := key
  have hlt : q.1 < 150 := by omega
  refine ⟨cell, ?_, k2, k3, ?_⟩
  · rw [wk_ad hlt]; exact k1
  · rw [wk_ad hlt]; exact wk_nA _ (Array.getElem?_eq_some_iff.mp k1).1
end WKG
