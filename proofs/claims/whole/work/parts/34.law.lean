/-! walks: the law -/
def tL_law : ax_T := (yL_law, cL_law, 9, (Option.some FieldType.boolean), [])
theorem x_slenN {G : ax_G} {mt : ax_T} {d pc : Nat} {ls : List (Option ax_V)} {st : List ax_V} {M M' : ax_M} {o : Option ax_V ⊕ String} {N : Nat} (hS : gN G = N) (hn : N < 2147483648) (hd : decode mt.2.1 pc = .ok (.arraylength, 1))
    (k' : ax_Ex G mt d (pc + 1) ls (vI (N : Int) :: st) M o M') : ax_Ex G mt d pc ls (vR 0 :: st) M o M' :=
  x_slen hd (by omega) (by rw [hS]; exact k')
theorem x_saldN {G : ax_G} {mt : ax_T} {d pc : Nat} {ls : List (Option ax_V)} {st : List ax_V} {M M' : ax_M} {o : Option ax_V ⊕ String} {N : Nat} {X : Nat → Int} {i : Int} (hSX : gX G = X) (hS : gN G = N) (hX : ∀ j, ax_in (X j)) (hd : decode mt.2.1 pc = .ok (.iaload, 1)) (h0 : 0 ≤ i) (h1 : i < N)
    (k' : ax_Ex G mt d (pc + 1) ls (vI (X (Int.toNat i)) :: st) M o M') : ax_Ex G mt d pc ls (vI i :: vR 0 :: st) M o M' :=
  x_sald (j := Int.toNat i) hd (by omega) (by omega) (by rw [hSX]; exact hX _) (by rw [hSX]; exact k')
def fL_law_b23 (X : Nat → Int) (N : Nat) (M : ax_M) (v4 : Int) : Option ((Int × ax_M) ⊕ ax_M) :=
  (if (((N : Nat) : Int) - 6) < v4 then (some (.inr M)) else (if 0 ≤ v4 ∧ v4 < N then (if (iand (X (Int.toNat v4)) 63) = 0 then (if 0 ≤ (v4 + 1) ∧ (v4 + 1) < N then (if 0 ≤ (wr (v4 + 2)) ∧ (wr (v4 + 2)) < N then (if 0 ≤ (wr (v4 + 3)) ∧ (wr (v4 + 3)) < N then (if 0 ≤ (wr (v4 + 4)) ∧ (wr (v4 + 4)) < N then (if 0 ≤ (wr (v4 + 5)) ∧ (wr (v4 + 5)) < N then (bd2 (fL_feed M (X (Int.toNat (v4 + 1))) (X (Int.toNat (wr (v4 + 2)))) (X (Int.toNat (wr (v4 + 3)))) (X (Int.toNat (wr (v4 + 4)))) (X (Int.toNat (wr (v4 + 5))))) fun v112 M111 => (if 0 ≤ (v4 + 1) ∧ (v4 + 1) < N then (if 0 ≤ (wr (v4 + 2)) ∧ (wr (v4 + 2)) < N then (if 0 ≤ (wr (v4 + 3)) ∧ (wr (v4 + 3)) < N then (if 0 ≤ (wr (v4 + 4)) ∧ (wr (v4 + 4)) < N then (if 0 ≤ (wr (v4 + 5)) ∧ (wr (v4 + 5)) < N then (bd2 (fX14_feed M111 (X (Int.toNat (v4 + 1))) (X (Int.toNat (wr (v4 + 2)))) (X (Int.toNat (wr (v4 + 3)))) (X (Int.toNat (wr (v4 + 4)))) (X (Int.toNat (wr (v4 + 5))))) fun v120 M119 => (if (fX14_thrown M119) = v112 then (if v112 = 0 then (if (ilc (mJ M119 243 0) (il v120)) = 0 then (some (.inl ((wr (v4 + 6)), M119))) else none) else (some (.inl ((wr (v4 + 6)), M119)))) else none)) else none) else none) else none) else none) else none)) else none) else none) else none) else none) else none) else (if (iand (X (Int.toNat v4)) 63) = 1 then (if 0 ≤ (v4 + 1) ∧ (v4 + 1) < N then (bd2 (fL_trim M (X (Int.toNat (v4 + 1)))) fun v128 M127 => (if 0 ≤ (v4 + 1) ∧ (v4 + 1) < N then (bd2 (fX14_trim M127 (X (Int.toNat (v4 + 1)))) fun v132 M131 => (if (fX14_thrown M131) = v128 then (if v128 = 0 then (if (ilc (mJ M131 243 0) (il v132)) = 0 then (some (.inl ((wr (v4 + 6)), M131))) else none) else (some (.inl ((wr (v4 + 6)), M131)))) else none)) else none)) else none) else (if (iand (X (Int.toNat v4)) 63) = 2 then (bd2 (fX12_teach M) fun v139 M138 => (bd2 (fX14_teach M138) fun v142 M141 => (if v139 = v142 then (some (.inl ((wr (v4 + 6)), M141))) else none))) else (if (iand (X (Int.toNat v4)) 63) = 3 then (bd2 (fX14_errorAt M) fun v147 M146 => (if (fX12_errorAt M) = v147 then (some (.inl ((wr (v4 + 6)), M146))) else none)) else (if (iand (X (Int.toNat v4)) 63) = 4 then (bd2 (fX14_columns M) fun v152 M151 => (if (fX12_columns M) = v152 then (some (.inl ((wr (v4 + 6)), M151))) else none)) else (if (iand (X (Int.toNat v4)) 63) = 5 then (bd2 (fX14_rows M) fun v157 M156 => (if (fX12_rows M) = v157 then (some (.inl ((wr (v4 + 6)), M156))) else none)) else (if (iand (X (Int.toNat v4)) 63) = 6 then (bd1 (fX12_plans M) fun v161 => (bd2 (fX14_plans M) fun v164 M163 => (if v161 = v164 then (some (.inl ((wr (v4 + 6)), M163))) else none))) else (if (iand (X (Int.toNat v4)) 63) = 7 then (bd2 (fX14_stonesToTakeBack M) fun v169 M168 => (if (fX12_stonesToTakeBack M) = v169 then (some (.inl ((wr (v4 + 6)), M168))) else none)) else (if (iand (X (Int.toNat v4)) 63) = 8 then (bd2 (fX14_tapeBytes M) fun v174 M173 => (if (fX12_tapeBytes M) = v174 then (some (.inl ((wr (v4 + 6)), M173))) else none)) else (if (iand (X (Int.toNat v4)) 63) = 9 then (bd2 (fX14_emptyCells M) fun v179 M178 => (if (fX12_emptyCells M) = v179 then (some (.inl ((wr (v4 + 6)), M178))) else none)) else (if (iand (X (Int.toNat v4)) 63) = 10 then (if 0 ≤ (v4 + 1) ∧ (v4 + 1) < N then (bd2 (fL_stonesOf M (X (Int.toNat (v4 + 1)))) fun v185 M184 => (if 0 ≤ (v4 + 1) ∧ (v4 + 1) < N then (bd2 (fX14_stonesOf M184 (X (Int.toNat (v4 + 1)))) fun v189 M188 => (if (fX14_thrown M188) = v185 then (if v185 = 0 then (if (ilc (mJ M188 243 0) (il v189)) = 0 then (some (.inl ((wr (v4 + 6)), M188))) else none) else (some (.inl ((wr (v4 + 6)), M188)))) else none)) else none)) else none) else (if (iand (X (Int.toNat v4)) 63) = 11 then (if 0 ≤ (v4 + 1) ∧ (v4 + 1) < N then (if 0 ≤ (wr (v4 + 2)) ∧ (wr (v4 + 2)) < N then (bd2 (fL_isEmpty M (X (Int.toNat (v4 + 1))) (X (Int.toNat (wr (v4 + 2))))) fun v198 M197 => (if 0 ≤ (v4 + 1) ∧ (v4 + 1) < N then (if 0 ≤ (wr (v4 + 2)) ∧ (wr (v4 + 2)) < N then (bd2 (fX14_isEmpty M197 (X (Int.toNat (v4 + 1))) (X (Int.toNat (wr (v4 + 2))))) fun v203 M202 => (if (fX14_thrown M202) = v198 then (if v198 = 0 then (if v203 = 0 then (if (ilc (mJ M202 243 0) (Int64.ofNat 0)) = 0 then (some (.inl ((wr (v4 + 6)), M202))) else none) else (if (ilc (mJ M202 243 0) (Int64.ofNat 1)) = 0 then (some (.inl ((wr (v4 + 6)), M202))) else none)) else (some (.inl ((wr (v4 + 6)), M202)))) else none)) else none) else none)) else none) else none) else (if (iand (X (Int.toNat v4)) 63) = 12 then (if 0 ≤ (v4 + 1) ∧ (v4 + 1) < N then (if 0 ≤ (wr (v4 + 2)) ∧ (wr (v4 + 2)) < N then (bd2 (fL_ownerOf M (X (Int.toNat (v4 + 1))) (X (Int.toNat (wr (v4 + 2))))) fun v214 M213 => (if 0 ≤ (v4 + 1) ∧ (v4 + 1) < N then (if 0 ≤ (wr (v4 + 2)) ∧ (wr (v4 + 2)) < N then (bd2 (fX14_ownerOf M213 (X (Int.toNat (v4 + 1))) (X (Int.toNat (wr (v4 + 2))))) fun v219 M218 => (if (fX14_thrown M218) = v214 then (if v214 = 0 then (if (ilc (mJ M218 243 0) (il v219)) = 0 then (some (.inl ((wr (v4 + 6)), M218))) else none) else (some (.inl ((wr (v4 + 6)), M218)))) else none)) else none) else none)) else none) else none) else (if (iand (X (Int.toNat v4)) 63) = 13 then (if 0 ≤ (v4 + 1) ∧ (v4 + 1) < N then (bd2 (fL_hasWon M (X (Int.toNat (v4 + 1)))) fun v227 M226 => (if 0 ≤ (v4 + 1) ∧ (v4 + 1) < N then (bd2 (fX14_hasWon M226 (X (Int.toNat (v4 + 1)))) fun v231 M230 => (if (fX14_thrown M230) = v227 then (if v227 = 0 then (if v231 = 0 then (if (ilc (mJ M230 243 0) (Int64.ofNat 0)) = 0 then (some (.inl ((wr (v4 + 6)), M230))) else none) else (if (ilc (mJ M230 243 0) (Int64.ofNat 1)) = 0 then (some (.inl ((wr (v4 + 6)), M230))) else none)) else (some (.inl ((wr (v4 + 6)), M230)))) else none)) else none)) else none) else (if (iand (X (Int.toNat v4)) 63) = 14 then (bd2 (fX12_isOver M) fun v240 M239 => (bd2 (fX14_isOver M239) fun v243 M242 => (if v240 = v243 then (some (.inl ((wr (v4 + 6)), M242))) else none))) else (if (iand (X (Int.toNat v4)) 63) = 15 then (bd2 (fL_playerInTurn M) fun v248 M247 => (bd2 (fX14_playerInTurn M247) fun v251 M250 => (if (fX14_thrown M250) = v248 then (if v248 = 0 then (if (ilc (mJ M250 243 0) (il v251)) = 0 then (some (.inl ((wr (v4 + 6)), M250))) else none) else (some (.inl ((wr (v4 + 6)), M250)))) else none))) else (if (iand (X (Int.toNat v4)) 63) = 16 then (if 0 ≤ (v4 + 1) ∧ (v4 + 1) < N then (if 0 ≤ (wr (v4 + 2)) ∧ (wr (v4 + 2)) < N then (if 0 ≤ (wr (v4 + 3)) ∧ (wr (v4 + 3)) < N then (bd2 (fL_stonesBeside M (X (Int.toNat (v4 + 1))) (X (Int.toNat (wr (v4 + 2)))) (X (Int.toNat (wr (v4 + 3))))) fun v261 M260 => (if 0 ≤ (v4 + 1) ∧ (v4 + 1) < N then (if 0 ≤ (wr (v4 + 2)) ∧ (wr (v4 + 2)) < N then (if 0 ≤ (wr (v4 + 3)) ∧ (wr (v4 + 3)) < N then (bd2 (fX14_stonesBeside M260 (X (Int.toNat (v4 + 1))) (X (Int.toNat (wr (v4 + 2)))) (X (Int.toNat (wr (v4 + 3))))) fun v267 M266 => (if (fX14_thrown M266) = v261 then (if v261 = 0 then (if (ilc (mJ M266 243 0) (il v267)) = 0 then (some (.inl ((wr (v4 + 6)), M266))) else none) else (some (.inl ((wr (v4 + 6)), M266)))) else none)) else none) else none) else none)) else none) else none) else none) else (if (iand (X (Int.toNat v4)) 63) = 17 then (if 0 ≤ (v4 + 1) ∧ (v4 + 1) < N then (if 0 ≤ (wr (v4 + 2)) ∧ (wr (v4 + 2)) < N then (bd2 (fL_groupSize M (X (Int.toNat (v4 + 1))) (X (Int.toNat (wr (v4 + 2))))) fun v276 M275 => (if 0 ≤ (v4 + 1) ∧ (v4 + 1) < N then (if 0 ≤ (wr (v4 + 2)) ∧ (wr (v4 + 2)) < N then (bd2 (fX14_groupSize M275 (X (Int.toNat (v4 + 1))) (X (Int.toNat (wr (v4 + 2))))) fun v281 M280 => (if (fX14_thrown M280) = v276 then (if v276 = 0 then (if (ilc (mJ M280 243 0) (il v281)) = 0 then (some (.inl ((wr (v4 + 6)), M280))) else none) else (some (.inl ((wr (v4 + 6)), M280)))) else none)) else none) else none)) else none) else none) else (if (iand (X (Int.toNat v4)) 63) = 18 then (if 0 ≤ (v4 + 1) ∧ (v4 + 1) < N then (if 0 ≤ (wr (v4 + 2)) ∧ (wr (v4 + 2)) < N then (bd2 (fL_shoresOf M (X (Int.toNat (v4 + 1))) (X (Int.toNat (wr (v4 + 2))))) fun v290 M289 => (if 0 ≤ (v4 + 1) ∧ (v4 + 1) < N then (if 0 ≤ (wr (v4 + 2)) ∧ (wr (v4 + 2)) < N then (bd2 (fX14_shoresOf M289 (X (Int.toNat (v4 + 1))) (X (Int.toNat (wr (v4 + 2))))) fun v295 M294 => (if (fX14_thrown M294) = v290 then (if v290 = 0 then (if (ilc (mJ M294 243 0) (il v295)) = 0 then (some (.inl ((wr (v4 + 6)), M294))) else none) else (some (.inl ((wr (v4 + 6)), M294)))) else none)) else none) else none)) else none) else none) else (if (iand (X (Int.toNat v4)) 63) = 19 then (if 0 ≤ (v4 + 1) ∧ (v4 + 1) < N then (bd2 (fL_groupsOf M (X (Int.toNat (v4 + 1)))) fun v303 M302 => (if 0 ≤ (v4 + 1) ∧ (v4 + 1) < N then (bd2 (fX14_groupsOf M302 (X (Int.toNat (v4 + 1)))) fun v307 M306 => (if (fX14_thrown M306) = v303 then (if v303 = 0 then (if (ilc (mJ M306 243 0) (il v307)) = 0 then (some (.inl ((wr (v4 + 6)), M306))) else none) else (some (.inl ((wr (v4 + 6)), M306)))) else none)) else none)) else none) else (if (iand (X (Int.toNat v4)) 63) = 20 then (if 0 ≤ (v4 + 1) ∧ (v4 + 1) < N then (bd2 (fL_greatestGroup M (X (Int.toNat (v4 + 1)))) fun v315 M314 => (if 0 ≤ (v4 + 1) ∧ (v4 + 1) < N then (bd2 (fX14_greatestGroup M314 (X (Int.toNat (v4 + 1)))) fun v319 M318 => (if (fX14_thrown M318) = v315 then (if v315 = 0 then (if (ilc (mJ M318 243 0) (il v319)) = 0 then (some (.inl ((wr (v4 + 6)), M318))) else none) else (some (.inl ((wr (v4 + 6)), M318)))) else none)) else none)) else none) else (if (iand (X (Int.toNat v4)) 63) = 21 then (if 0 ≤ (v4 + 1) ∧ (v4 + 1) < N then (if 0 ≤ (wr (v4 + 2)) ∧ (wr (v4 + 2)) < N then (bd2 (fL_isBridge M (X (Int.toNat (v4 + 1))) (X (Int.toNat (wr (v4 + 2))))) fun v328 M327 => (if 0 ≤ (v4 + 1) ∧ (v4 + 1) < N then (if 0 ≤ (wr (v4 + 2)) ∧ (wr (v4 + 2)) < N then (bd2 (fX14_isBridge M327 (X (Int.toNat (v4 + 1))) (X (Int.toNat (wr (v4 + 2))))) fun v333 M332 => (if (fX14_thrown M332) = v328 then (if v328 = 0 then (if v333 = 0 then (if (ilc (mJ M332 243 0) (Int64.ofNat 0)) = 0 then (some (.inl ((wr (v4 + 6)), M332))) else none) else (if (ilc (mJ M332 243 0) (Int64.ofNat 1)) = 0 then (some (.inl ((wr (v4 + 6)), M332))) else none)) else (some (.inl ((wr (v4 + 6)), M332)))) else none)) else none) else none)) else none) else none) else (if (iand (X (Int.toNat v4)) 63) = 22 then (if 0 ≤ (v4 + 1) ∧ (v4 + 1) < N then (bd2 (fL_bridgesOf M (X (Int.toNat (v4 + 1)))) fun v343 M342 => (if 0 ≤ (v4 + 1) ∧ (v4 + 1) < N then (bd2 (fX14_bridgesOf M342 (X (Int.toNat (v4 + 1)))) fun v347 M346 => (if (fX14_thrown M346) = v343 then (if v343 = 0 then (if (ilc (mJ M346 243 0) (il v347)) = 0 then (some (.inl ((wr (v4 + 6)), M346))) else none) else (some (.inl ((wr (v4 + 6)), M346)))) else none)) else none)) else none) else (if (iand (X (Int.toNat v4)) 63) = 23 then (if 0 ≤ (v4 + 1) ∧ (v4 + 1) < N then (bd2 (fL_brokenBridgesOf M (X (Int.toNat (v4 + 1)))) fun v355 M354 => (if 0 ≤ (v4 + 1) ∧ (v4 + 1) < N then (bd2 (fX14_brokenBridgesOf M354 (X (Int.toNat (v4 + 1)))) fun v359 M358 => (if (fX14_thrown M358) = v355 then (if v355 = 0 then (if (ilc (mJ M358 243 0) (il v359)) = 0 then (some (.inl ((wr (v4 + 6)), M358))) else none) else (some (.inl ((wr (v4 + 6)), M358)))) else none)) else none)) else none) else (if (iand (X (Int.toNat v4)) 63) = 24 then (if 0 ≤ (v4 + 1) ∧ (v4 + 1) < N then (if 0 ≤ (wr (v4 + 2)) ∧ (wr (v4 + 2)) < N then (bd2 (fL_isFrozen M (X (Int.toNat (v4 + 1))) (X (Int.toNat (wr (v4 + 2))))) fun v368 M367 => (if 0 ≤ (v4 + 1) ∧ (v4 + 1) < N then (if 0 ≤ (wr (v4 + 2)) ∧ (wr (v4 + 2)) < N then (bd2 (fX14_isFrozen M367 (X (Int.toNat (v4 + 1))) (X (Int.toNat (wr (v4 + 2))))) fun v373 M372 => (if (fX14_thrown M372) = v368 then (if v368 = 0 then (if v373 = 0 then (if (ilc (mJ M372 243 0) (Int64.ofNat 0)) = 0 then (some (.inl ((wr (v4 + 6)), M372))) else none) else (if (ilc (mJ M372 243 0) (Int64.ofNat 1)) = 0 then (some (.inl ((wr (v4 + 6)), M372))) else none)) else (some (.inl ((wr (v4 + 6)), M372)))) else none)) else none) else none)) else none) else none) else (if (iand (X (Int.toNat v4)) 63) = 25 then (bd1 (fX12_frozenCells M) fun v381 => (bd2 (fX14_frozenCells M) fun v384 M383 => (if v381 = v384 then (some (.inl ((wr (v4 + 6)), M383))) else none))) else (if (iand (X (Int.toNat v4)) 63) = 26 then (if 0 ≤ (v4 + 1) ∧ (v4 + 1) < N then (bd2 (fL_stonesNeeded M (X (Int.toNat (v4 + 1)))) fun v390 M389 => (if 0 ≤ (v4 + 1) ∧ (v4 + 1) < N then (bd2 (fX14_stonesNeeded M389 (X (Int.toNat (v4 + 1)))) fun v394 M393 => (if (fX14_thrown M393) = v390 then (if v390 = 0 then (if (ilc (mJ M393 243 0) (il v394)) = 0 then (some (.inl ((wr (v4 + 6)), M393))) else none) else (some (.inl ((wr (v4 + 6)), M393)))) else none)) else none)) else none) else (if (iand (X (Int.toNat v4)) 63) = 27 then (if 0 ≤ (v4 + 1) ∧ (v4 + 1) < N then (if 0 ≤ (wr (v4 + 2)) ∧ (wr (v4 + 2)) < N then (if 0 ≤ (wr (v4 + 3)) ∧ (wr (v4 + 3)) < N then (bd2 (fL_stonesNeededThrough M (X (Int.toNat (v4 + 1))) (X (Int.toNat (wr (v4 + 2)))) (X (Int.toNat (wr (v4 + 3))))) fun v404 M403 => (if 0 ≤ (v4 + 1) ∧ (v4 + 1) < N then (if 0 ≤ (wr (v4 + 2)) ∧ (wr (v4 + 2)) < N then (if 0 ≤ (wr (v4 + 3)) ∧ (wr (v4 + 3)) < N then (bd2 (fX14_stonesNeededThrough M403 (X (Int.toNat (v4 + 1))) (X (Int.toNat (wr (v4 + 2)))) (X (Int.toNat (wr (v4 + 3))))) fun v410 M409 => (if (fX14_thrown M409) = v404 then (if v404 = 0 then (if (ilc (mJ M409 243 0) (il v410)) = 0 then (some (.inl ((wr (v4 + 6)), M409))) else none) else (some (.inl ((wr (v4 + 6)), M409)))) else none)) else none) else none) else none)) else none) else none) else none) else (if (iand (X (Int.toNat v4)) 63) = 28 then (if 0 ≤ (v4 + 1) ∧ (v4 + 1) < N then (if 0 ≤ (wr (v4 + 2)) ∧ (wr (v4 + 2)) < N then (if 0 ≤ (wr (v4 + 3)) ∧ (wr (v4 + 3)) < N then (bd2 (fL_isWinningCell M (X (Int.toNat (v4 + 1))) (X (Int.toNat (wr (v4 + 2)))) (X (Int.toNat (wr (v4 + 3))))) fun v420 M419 => (if 0 ≤ (v4 + 1) ∧ (v4 + 1) < N then (if 0 ≤ (wr (v4 + 2)) ∧ (wr (v4 + 2)) < N then (if 0 ≤ (wr (v4 + 3)) ∧ (wr (v4 + 3)) < N then (bd2 (fX14_isWinningCell M419 (X (Int.toNat (v4 + 1))) (X (Int.toNat (wr (v4 + 2)))) (X (Int.toNat (wr (v4 + 3))))) fun v426 M425 => (if (fX14_thrown M425) = v420 then (if v420 = 0 then (if v426 = 0 then (if (ilc (mJ M425 243 0) (Int64.ofNat 0)) = 0 then (some (.inl ((wr (v4 + 6)), M425))) else none) else (if (ilc (mJ M425 243 0) (Int64.ofNat 1)) = 0 then (some (.inl ((wr (v4 + 6)), M425))) else none)) else (some (.inl ((wr (v4 + 6)), M425)))) else none)) else none) else none) else none)) else none) else none) else none) else (if (iand (X (Int.toNat v4)) 63) = 29 then (if 0 ≤ (v4 + 1) ∧ (v4 + 1) < N then (bd2 (fL_winningCells M (X (Int.toNat (v4 + 1)))) fun v436 M435 => (if 0 ≤ (v4 + 1) ∧ (v4 + 1) < N then (bd2 (fX14_winningCells M435 (X (Int.toNat (v4 + 1)))) fun v440 M439 => (if (fX14_thrown M439) = v436 then (if v436 = 0 then (if (ilc (mJ M439 243 0) (il v440)) = 0 then (some (.inl ((wr (v4 + 6)), M439))) else none) else (some (.inl ((wr (v4 + 6)), M439)))) else none)) else none)) else none) else (if (iand (X (Int.toNat v4)) 63) = 30 then (if 0 ≤ (v4 + 1) ∧ (v4 + 1) < N then (if 0 ≤ (wr (v4 + 2)) ∧ (wr (v4 + 2)) < N then (bd2 (fL_layStone M (X (Int.toNat (v4 + 1))) (X (Int.toNat (wr (v4 + 2))))) fun v449 M448 => (if 0 ≤ (v4 + 1) ∧ (v4 + 1) < N then (if 0 ≤ (wr (v4 + 2)) ∧ (wr (v4 + 2)) < N then (bd2 (fX14_layStone M448 (X (Int.toNat (v4 + 1))) (X (Int.toNat (wr (v4 + 2))))) fun v454 M453 => (if (fX14_thrown M453) = v449 then (if v449 = 0 then (if (ilc (mJ M453 243 0) (il v454)) = 0 then (some (.inl ((wr (v4 + 6)), M453))) else none) else (some (.inl ((wr (v4 + 6)), M453)))) else none)) else none) else none)) else none) else none) else (if (iand (X (Int.toNat v4)) 63) = 31 then (bd2 (fL_takeBack M) fun v461 M460 => (bd2 (fX14_takeBack M460) fun v464 M463 => (if (fX14_thrown M463) = v461 then (if v461 = 0 then (if (ilc (mJ M463 243 0) (il v464)) = 0 then (some (.inl ((wr (v4 + 6)), M463))) else none) else (some (.inl ((wr (v4 + 6)), M463)))) else none))) else (if (iand (X (Int.toNat v4)) 63) = 32 then (bd2 (fL_plannedCell M) fun v471 M470 => (bd2 (fX14_plannedCell M470) fun v474 M473 => (if (fX14_thrown M473) = v471 then (if v471 = 0 then (if (ilc (mJ M473 243 0) (il v474)) = 0 then (some (.inl ((wr (v4 + 6)), M473))) else none) else (some (.inl ((wr (v4 + 6)), M473)))) else none))) else (if (iand (X (Int.toNat v4)) 63) = 33 then (if 0 ≤ (v4 + 1) ∧ (v4 + 1) < N then (bd2 (fL_playByPlans M (X (Int.toNat (v4 + 1)))) fun v482 M481 => (if 0 ≤ (v4 + 1) ∧ (v4 + 1) < N then (bd2 (fX14_playByPlans M481 (X (Int.toNat (v4 + 1)))) fun v486 M485 => (if (fX14_thrown M485) = v482 then (if v482 = 0 then (if (ilc (mJ M485 243 0) (il v486)) = 0 then (some (.inl ((wr (v4 + 6)), M485))) else none) else (some (.inl ((wr (v4 + 6)), M485)))) else none)) else none)) else none) else (if (iand (X (Int.toNat v4)) 63) = 34 then (bd2 (fX12_stonesByPlans M) fun v493 M492 => (bd2 (fX14_stonesByPlans M492) fun v496 M495 => (if v493 = v496 then (some (.inl ((wr (v4 + 6)), M495))) else none))) else (if (iand (X (Int.toNat v4)) 63) = 35 then (bd2 (fX12_winnerByPlans M) fun v501 M500 => (bd2 (fX14_winnerByPlans M500) fun v504 M503 => (if v501 = v504 then (some (.inl ((wr (v4 + 6)), M503))) else none))) else (if (iand (X (Int.toNat v4)) 63) = 36 then (bd2 (fL_mustPlay M) fun v509 M508 => (bd2 (fX14_mustPlay M508) fun v512 M511 => (if (fX14_thrown M511) = v509 then (if v509 = 0 then (if (ilc (mJ M511 243 0) (il v512)) = 0 then (some (.inl ((wr (v4 + 6)), M511))) else none) else (some (.inl ((wr (v4 + 6)), M511)))) else none))) else (if (iand (X (Int.toNat v4)) 63) = 37 then (bd2 (fL_bestCell M) fun v519 M518 => (bd2 (fX14_bestCell M518) fun v522 M521 => (if (fX14_thrown M521) = v519 then (if v519 = 0 then (if (ilc (mJ M521 243 0) (il v522)) = 0 then (some (.inl ((wr (v4 + 6)), M521))) else none) else (some (.inl ((wr (v4 + 6)), M521)))) else none))) else (if (iand (X (Int.toNat v4)) 63) = 38 then (bd2 (fX12_meanGroup M) fun v529 M528 => (bd2 (fX14_meanGroup M528) fun v532 M531 => (if (idc v529 v532 .l) = 0 then (some (.inl ((wr (v4 + 6)), M531))) else (if (idc v529 v529 .l) = 0 then none else (if (idc v532 v532 .l) = 0 then none else (some (.inl ((wr (v4 + 6)), M531)))))))) else (if (iand (X (Int.toNat v4)) 63) = 39 then (bd2 (fX12_digest M) fun v539 M538 => (bd2 (fX14_digest M538) fun v542 M541 => (if (ilc v539 v542) = 0 then (some (.inl ((wr (v4 + 6)), M541))) else none))) else (some (.inl ((wr (v4 + 6)), M))))))))))))))))))))))))))))))))))))))))))) else none))
set_option maxRecDepth 20000 in
set_option maxHeartbeats 4000000 in
theorem B_L_law_23 {G : ax_G} {d : Nat} (hd : 144 ≤ d) (hG : axPs G 150 244) (hX : (gL G).stackTraces = false) {X : Nat → Int} {N : Nat} (hSX : gX G = X) (hSN : gN G = N) (hNb : N < 2147483648) (hXi : ∀ j, ax_in (X j)) {M : ax_M} {v4 : Int} {o : Option ax_V ⊕ String} {M' : ax_M} {y : (Int × ax_M) ⊕ ax_M} (hf : fL_law_b23 X N M v4 = some y) (h1 : ∀ s', y = .inl s' → ax_Ex G tL_law d 23 [some (vR 0), some (vR 150), some (vR 203), some (vR 243), some (vI s'.1), none, none, none, none] [] s'.2 o M') (h2a : ∀ t, y = .inr t → ax_Ex G tL_law d 2068 [some (vR 0), some (vR 150), some (vR 203), some (vR 243), none, none, none, none, none] [] t o M') : ax_Ex G tL_law d 23 [some (vR 0), some (vR 150), some (vR 203), some (vR 243), some (vI v4), none, none, none, none] [] M o M' := by
  unfold fL_law_b23 at hf
  refine x_iload (pc := 23) dL_law_23 rfl ?_
  refine x_aload_n (pc := 25) dL_law_25 rfl ?_
  refine x_slenN hSN hNb (pc := 26) dL_law_26 ?_
  refine x_bipush (pc := 27) dL_law_27 (by decide) ⟨by decide, by decide⟩ ?_
  refine x_isub (z := (((N : Nat) : Int) - 6)) (pc := 29) dL_law_29 rfl (ax_i (by omega) (by omega)) ?_
  refine ax_cmp (fun b102a b102b b102c b102e => ?_)
  refine x_icmpgt (tgt := 2068) (pc := 30) dL_law_30 rfl (fun h101 => ?_) (fun h101 => ?_)
  · replace hf := (if_pos h101).symm.trans hf
    cases hf
    exact x_fgt (axS' (axS' (axS' (axS' (axN' (axN' (axN' (axN' (axN' axD))))))))) (h2a _ rfl)
  · replace hf := (if_neg (Int.not_lt.mpr h101)).symm.trans hf
    refine x_aload_n (pc := 33) dL_law_33 rfl ?_
    refine x_iload (pc := 34) dL_law_34 rfl ?_
    by_cases h103 : 0 ≤ v4 ∧ v4 < N
    · replace hf := (if_pos h103).symm.trans hf
      refine x_saldN hSX hSN hXi (pc := 36) dL_law_36 h103.1 h103.2 ?_
      refine x_bipush (pc := 37) dL_law_37 (by decide) ⟨by decide, by decide⟩ ?_
      refine x_iand (z := (iand (X (Int.toNat v4)) 63)) (pc := 39) dL_law_39 rfl ?_
      by_cases h104 : (iand (X (Int.toNat v4)) 63) = 0
      · replace hf := (if_pos h104).symm.trans hf
        refine x_tabIn (tgt := 216) 0 (pc := 40) dL_law_40 h104 (by decide) (by decide) rfl rfl ?_
        refine x_aload_n (pc := 216) dL_law_216 rfl ?_
        refine x_aload_n (pc := 217) dL_law_217 rfl ?_
        refine x_iload (pc := 218) dL_law_218 rfl ?_
        refine x_iconst (pc := 220) dL_law_220 ⟨by decide, by decide⟩ ?_
        refine x_iadd (z := (v4 + 1)) (pc := 221) dL_law_221 rfl (ax_i (by omega) (by omega)) ?_
        by_cases h105 : 0 ≤ (v4 + 1) ∧ (v4 + 1) < N
        · replace hf := (if_pos h105).symm.trans hf
          refine x_saldN hSX hSN hXi (pc := 222) dL_law_222 h105.1 h105.2 ?_
          refine x_aload_n (pc := 223) dL_law_223 rfl ?_
          refine x_iload (pc := 224) dL_law_224 rfl ?_
          refine x_iconst (pc := 226) dL_law_226 ⟨by decide, by decide⟩ ?_
          refine x_iaddw (pc := 227) dL_law_227 ?_
          by_cases h106 : 0 ≤ (wr (v4 + 2)) ∧ (wr (v4 + 2)) < N
          · replace hf := (if_pos h106).symm.trans hf
            refine x_saldN hSX hSN hXi (pc := 228) dL_law_228 h106.1 h106.2 ?_
            refine x_aload_n (pc := 229) dL_law_229 rfl ?_
            refine x_iload (pc := 230) dL_law_230 rfl ?_
            refine x_iconst (pc := 232) dL_law_232 ⟨by decide, by decide⟩ ?_
            refine x_iaddw (pc := 233) dL_law_233 ?_
            by_cases h107 : 0 ≤ (wr (v4 + 3)) ∧ (wr (v4 + 3)) < N
            · replace hf := (if_pos h107).symm.trans hf
              refine x_saldN hSX hSN hXi (pc := 234) dL_law_234 h107.1 h107.2 ?_
              refine x_aload_n (pc := 235) dL_law_235 rfl ?_
              refine x_iload (pc := 236) dL_law_236 rfl ?_
              refine x_iconst (pc := 238) dL_law_238 ⟨by decide, by decide⟩ ?_
              refine x_iaddw (pc := 239) dL_law_239 ?_
              by_cases h108 : 0 ≤ (wr (v4 + 4)) ∧ (wr (v4 + 4)) < N
              · replace hf := (if_pos h108).symm.trans hf
                refine x_saldN hSX hSN hXi (pc := 240) dL_law_240 h108.1 h108.2 ?_
                refine x_aload_n (pc := 241) dL_law_241 rfl ?_
                refine x_iload (pc := 242) dL_law_242 rfl ?_
                refine x_iconst (pc := 244) dL_law_244 ⟨by decide, by decide⟩ ?_
                refine x_iaddw (pc := 245) dL_law_245 ?_
                by_cases h109 : 0 ≤ (wr (v4 + 5)) ∧ (wr (v4 + 5)) < N
                · replace hf := (if_pos h109).symm.trans hf
                  refine x_saldN hSX hSN hXi (pc := 246) dL_law_246 h109.1 h109.2 ?_
                  refine x_aload_n (pc := 247) dL_law_247 rfl ?_
                  obtain ⟨v112, M111, r110, hf⟩ := bd2_some hf
                  refine x_cr (v := vI v112) (vs := [vR 150, vI (X (Int.toNat (v4 + 1))), vI (X (Int.toNat (wr (v4 + 2)))), vI (X (Int.toNat (wr (v4 + 3)))), vI (X (Int.toNat (wr (v4 + 4)))), vI (X (Int.toNat (wr (v4 + 5)))), vR 243]) (rest := []) (k := 1) rfl (by omega) (ax_caSH (pc := 248) dL_law_248 kL_feed (by decide) rfl WM_L_105 WT_L_feed WN_L (Nat.le_of_ble_eq_true rfl)) kL_feed rfl True.intro (T_L_feed (by omega) hG hX r110) ?_
                  refine x_istore (ls' := [some (vR 0), some (vR 150), some (vR 203), some (vR 243), some (vI v4), some (vI v112), none, none, none]) (pc := 251) dL_law_251 (Nat.le_of_ble_eq_true rfl) rfl rfl ?_
                  refine x_aload_n (pc := 253) dL_law_253 rfl ?_
                  refine x_aload_n (pc := 254) dL_law_254 rfl ?_
                  refine x_iload (pc := 255) dL_law_255 rfl ?_
                  refine x_iconst (pc := 257) dL_law_257 ⟨by decide, by decide⟩ ?_
                  refine x_iadd (z := (v4 + 1)) (pc := 258) dL_law_258 rfl (ax_i (by omega) (by omega)) ?_
                  by_cases h113 : 0 ≤ (v4 + 1) ∧ (v4 + 1) < N
                  · replace hf := (if_pos h113).symm.trans hf
                    refine x_saldN hSX hSN hXi (pc := 259) dL_law_259 h113.1 h113.2 ?_
                    refine x_aload_n (pc := 260) dL_law_260 rfl ?_
                    refine x_iload (pc := 261) dL_law_261 rfl ?_
                    refine x_iconst (pc := 263) dL_law_263 ⟨by decide, by decide⟩ ?_
                    refine x_iaddw (pc := 264) dL_law_264 ?_
                    by_cases h114 : 0 ≤ (wr (v4 + 2)) ∧ (wr (v4 + 2)) < N
                    · replace hf := (if_pos h114).symm.trans hf
                      refine x_saldN hSX hSN hXi (pc := 265) dL_law_265 h114.1 h114.2 ?_
                      refine x_aload_n (pc := 266) dL_law_266 rfl ?_
                      refine x_iload (pc := 267) dL_law_267 rfl ?_
                      refine x_iconst (pc := 269) dL_law_269 ⟨by decide, by decide⟩ ?_
                      refine x_iaddw (pc := 270) dL_law_270 ?_
                      by_cases h115 : 0 ≤ (wr (v4 + 3)) ∧ (wr (v4 + 3)) < N
                      · replace hf := (if_pos h115).symm.trans hf
                        refine x_saldN hSX hSN hXi (pc := 271) dL_law_271 h115.1 h115.2 ?_
                        refine x_aload_n (pc := 272) dL_law_272 rfl ?_
                        refine x_iload (pc := 273) dL_law_273 rfl ?_
                        refine x_iconst (pc := 275) dL_law_275 ⟨by decide, by decide⟩ ?_
                        refine x_iaddw (pc := 276) dL_law_276 ?_
                        by_cases h116 : 0 ≤ (wr (v4 + 4)) ∧ (wr (v4 + 4)) < N
                        · replace hf := (if_pos h116).symm.trans hf
                          refine x_saldN hSX hSN hXi (pc := 277) dL_law_277 h116.1 h116.2 ?_
                          refine x_aload_n (pc := 278) dL_law_278 rfl ?_
                          refine x_iload (pc := 279) dL_law_279 rfl ?_
                          refine x_iconst (pc := 281) dL_law_281 ⟨by decide, by decide⟩ ?_
                          refine x_iaddw (pc := 282) dL_law_282 ?_
                          by_cases h117 : 0 ≤ (wr (v4 + 5)) ∧ (wr (v4 + 5)) < N
                          · replace hf := (if_pos h117).symm.trans hf
                            refine x_saldN hSX hSN hXi (pc := 283) dL_law_283 h117.1 h117.2 ?_
                            obtain ⟨v120, M119, r118, hf⟩ := bd2_some hf
                            refine x_cr (v := vI v120) (vs := [vR 203, vI (X (Int.toNat (v4 + 1))), vI (X (Int.toNat (wr (v4 + 2)))), vI (X (Int.toNat (wr (v4 + 3)))), vI (X (Int.toNat (wr (v4 + 4)))), vI (X (Int.toNat (wr (v4 + 5))))]) (rest := []) (k := 6) rfl (by omega) (ax_caV (pc := 284) dL_law_284 kX14_feed rfl rfl WM_L_110 WI_X14_feed WS_X14_feed WN_X14 (ax_rcO (t := 12) (axEx hG rfl) rfl (by decide)) (Nat.le_of_ble_eq_true rfl)) kX14_feed rfl True.intro (T_X14_feed (by omega) hG r118) ?_
                            refine x_istore (ls' := [some (vR 0), some (vR 150), some (vR 203), some (vR 243), some (vI v4), some (vI v112), some (vI v120), none, none]) (pc := 287) dL_law_287 (Nat.le_of_ble_eq_true rfl) rfl rfl ?_
                            refine x_aload_n (pc := 289) dL_law_289 rfl ?_
                            refine x_cr (v := vI (fX14_thrown M119)) (vs := [vR 203]) (rest := []) (k := 0) rfl (by omega) (ax_caV (pc := 290) dL_law_290 kX14_thrown rfl rfl WM_L_111 WI_X14_thrown WS_X14_thrown WN_X14 (ax_rcO (t := 12) (axEx hG rfl) rfl (by decide)) (Nat.le_of_ble_eq_true rfl)) kX14_thrown rfl True.intro (T_X14_thrown (by omega) hG rfl) ?_
                            refine x_iload (pc := 293) dL_law_293 rfl ?_
                            refine x_icmpeq (tgt := 300) (pc := 295) dL_law_295 rfl (fun h121 => ?_) (fun h121 => ?_)
                            · replace hf := (if_pos h121).symm.trans hf
                              refine x_iload (pc := 300) dL_law_300 rfl ?_
                              refine x_ifne (tgt := 317) (pc := 302) dL_law_302 rfl (fun h122 => ?_) (fun h122 => ?_)
                              · replace hf := (if_neg h122).symm.trans hf
                                refine x_goto (tgt := 2062) (pc := 317) dL_law_317 rfl ?_
                                refine x_iincw (ls' := [some (vR 0), some (vR 150), some (vR 203), some (vR 243), some (vI (wr (v4 + 6))), some (vI v112), some (vI v120), none, none]) (pc := 2062) dL_law_2062 rfl (Nat.le_of_ble_eq_true rfl) rfl rfl ?_
                                refine x_goto (tgt := 23) (pc := 2065) dL_law_2065 rfl ?_
                                cases hf
                                exact x_fgt (axS' (axS' (axS' (axS' (axS' (axN' (axN' (axN' (axN' axD))))))))) (h1 _ rfl)
                              · replace hf := (if_pos h122).symm.trans hf
                                refine x_aload_n (pc := 305) dL_law_305 rfl ?_
                                refine x_iconst (pc := 306) dL_law_306 ⟨by decide, by decide⟩ ?_
                                refine x_lald (j := 0) (n := 1) (pc := 307) dL_law_307 (axEx hG rfl) rfl rfl (by decide) ?_
                                refine x_iload (pc := 308) dL_law_308 rfl ?_
                                refine x_i2l (pc := 310) dL_law_310 ?_
                                refine x_lcmp (z := (ilc (mJ M119 243 0) (il v120))) (pc := 311) dL_law_311 rfl ?_
                                refine x_ifeq (tgt := 317) (pc := 312) dL_law_312 rfl (fun h123 => ?_) (fun h123 => ?_)
                                · replace hf := (if_pos h123).symm.trans hf
                                  refine x_goto (tgt := 2062) (pc := 317) dL_law_317 rfl ?_
                                  refine x_iincw (ls' := [some (vR 0), some (vR 150), some (vR 203), some (vR 243), some (vI (wr (v4 + 6))), some (vI v112), some (vI v120), none, none]) (pc := 2062) dL_law_2062 rfl (Nat.le_of_ble_eq_true rfl) rfl rfl ?_
                                  refine x_goto (tgt := 23) (pc := 2065) dL_law_2065 rfl ?_
                                  cases hf
                                  exact x_fgt (axS' (axS' (axS' (axS' (axS' (axN' (axN' (axN' (axN' axD))))))))) (h1 _ rfl)
                                · replace hf := (if_neg h123).symm.trans hf
                                  cases hf
                            · replace hf := (if_neg h121).symm.trans hf
                              cases hf
                          · replace hf := (if_neg h117).symm.trans hf
                            cases hf
                        · replace hf := (if_neg h116).symm.trans hf
                          cases hf
                      · replace hf := (if_neg h115).symm.trans hf
                        cases hf
                    · replace hf := (if_neg h114).symm.trans hf
                      cases hf
                  · replace hf := (if_neg h113).symm.trans hf
                    cases hf
                · replace hf := (if_neg h109).symm.trans hf
                  cases hf
              · replace hf := (if_neg h108).symm.trans hf
                cases hf
            · replace hf := (if_neg h107).symm.trans hf
              cases hf
          · replace hf := (if_neg h106).symm.trans hf
            cases hf
        · replace hf := (if_neg h105).symm.trans hf
          cases hf
      replace hf := (if_neg h104).symm.trans hf
      by_cases h124 : (iand (X (Int.toNat v4)) 63) = 1
      · replace hf := (if_pos h124).symm.trans hf
        refine x_tabIn (tgt := 320) 1 (pc := 40) dL_law_40 h124 (by decide) (by decide) rfl rfl ?_
        refine x_aload_n (pc := 320) dL_law_320 rfl ?_
        refine x_aload_n (pc := 321) dL_law_321 rfl ?_
        refine x_iload (pc := 322) dL_law_322 rfl ?_
        refine x_iconst (pc := 324) dL_law_324 ⟨by decide, by decide⟩ ?_
        refine x_iadd (z := (v4 + 1)) (pc := 325) dL_law_325 rfl (ax_i (by omega) (by omega)) ?_
        by_cases h125 : 0 ≤ (v4 + 1) ∧ (v4 + 1) < N
        · replace hf := (if_pos h125).symm.trans hf
          refine x_saldN hSX hSN hXi (pc := 326) dL_law_326 h125.1 h125.2 ?_
          refine x_aload_n (pc := 327) dL_law_327 rfl ?_
          obtain ⟨v128, M127, r126, hf⟩ := bd2_some hf
          refine x_cr (v := vI v128) (vs := [vR 150, vI (X (Int.toNat (v4 + 1))), vR 243]) (rest := []) (k := 1) rfl (by omega) (ax_caSH (pc := 328) dL_law_328 kL_trim (by decide) rfl WM_L_114 WT_L_trim WN_L (Nat.le_of_ble_eq_true rfl)) kL_trim rfl True.intro (T_L_trim (by omega) hG hX r126) ?_
          refine x_istore (ls' := [some (vR 0), some (vR 150), some (vR 203), some (vR 243), some (vI v4), some (vI v128), none, none, none]) (pc := 331) dL_law_331 (Nat.le_of_ble_eq_true rfl) rfl rfl ?_
          refine x_aload_n (pc := 333) dL_law_333 rfl ?_
          refine x_aload_n (pc := 334) dL_law_334 rfl ?_
          refine x_iload (pc := 335) dL_law_335 rfl ?_
          refine x_iconst (pc := 337) dL_law_337 ⟨by decide, by decide⟩ ?_
          refine x_iadd (z := (v4 + 1)) (pc := 338) dL_law_338 rfl (ax_i (by omega) (by omega)) ?_
          by_cases h129 : 0 ≤ (v4 + 1) ∧ (v4 + 1) < N
          · replace hf := (if_pos h129).symm.trans hf
            refine x_saldN hSX hSN hXi (pc := 339) dL_law_339 h129.1 h129.2 ?_
            obtain ⟨v132, M131, r130, hf⟩ := bd2_some hf
            refine x_cr (v := vI v132) (vs := [vR 203, vI (X (Int.toNat (v4 + 1)))]) (rest := []) (k := 0) rfl (by omega) (ax_caV (pc := 340) dL_law_340 kX14_trim rfl rfl WM_L_117 WI_X14_trim WS_X14_trim WN_X14 (ax_rcO (t := 12) (axEx hG rfl) rfl (by decide)) (Nat.le_of_ble_eq_true rfl)) kX14_trim rfl True.intro (T_X14_trim (by omega) hG r130) ?_
            refine x_istore (ls' := [some (vR 0), some (vR 150), some (vR 203), some (vR 243), some (vI v4), some (vI v128), some (vI v132), none, none]) (pc := 343) dL_law_343 (Nat.le_of_ble_eq_true rfl) rfl rfl ?_
            refine x_aload_n (pc := 345) dL_law_345 rfl ?_
            refine x_cr (v := vI (fX14_thrown M131)) (vs := [vR 203]) (rest := []) (k := 0) rfl (by omega) (ax_caV (pc := 346) dL_law_346 kX14_thrown rfl rfl WM_L_111 WI_X14_thrown WS_X14_thrown WN_X14 (ax_rcO (t := 12) (axEx hG rfl) rfl (by decide)) (Nat.le_of_ble_eq_true rfl)) kX14_thrown rfl True.intro (T_X14_thrown (by omega) hG rfl) ?_
            refine x_iload (pc := 349) dL_law_349 rfl ?_
            refine x_icmpeq (tgt := 356) (pc := 351) dL_law_351 rfl (fun h133 => ?_) (fun h133 => ?_)
            · replace hf := (if_pos h133).symm.trans hf
              refine x_iload (pc := 356) dL_law_356 rfl ?_
              refine x_ifne (tgt := 373) (pc := 358) dL_law_358 rfl (fun h134 => ?_) (fun h134 => ?_)
              · replace hf := (if_neg h134).symm.trans hf
                refine x_goto (tgt := 2062) (pc := 373) dL_law_373 rfl ?_
                refine x_iincw (ls' := [some (vR 0), some (vR 150), some (vR 203), some (vR 243), some (vI (wr (v4 + 6))), some (vI v128), some (vI v132), none, none]) (pc := 2062) dL_law_2062 rfl (Nat.le_of_ble_eq_true rfl) rfl rfl ?_
                refine x_goto (tgt := 23) (pc := 2065) dL_law_2065 rfl ?_
                cases hf
                exact x_fgt (axS' (axS' (axS' (axS' (axS' (axN' (axN' (axN' (axN' axD))))))))) (h1 _ rfl)
              · replace hf := (if_pos h134).symm.trans hf
                refine x_aload_n (pc := 361) dL_law_361 rfl ?_
                refine x_iconst (pc := 362) dL_law_362 ⟨by decide, by decide⟩ ?_
                refine x_lald (j := 0) (n := 1) (pc := 363) dL_law_363 (axEx hG rfl) rfl rfl (by decide) ?_
                refine x_iload (pc := 364) dL_law_364 rfl ?_
                refine x_i2l (pc := 366) dL_law_366 ?_
                refine x_lcmp (z := (ilc (mJ M131 243 0) (il v132))) (pc := 367) dL_law_367 rfl ?_
                refine x_ifeq (tgt := 373) (pc := 368) dL_law_368 rfl (fun h135 => ?_) (fun h135 => ?_)
                · replace hf := (if_pos h135).symm.trans hf
                  refine x_goto (tgt := 2062) (pc := 373) dL_law_373 rfl ?_
                  refine x_iincw (ls' := [some (vR 0), some (vR 150), some (vR 203), some (vR 243), some (vI (wr (v4 + 6))), some (vI v128), some (vI v132), none, none]) (pc := 2062) dL_law_2062 rfl (Nat.le_of_ble_eq_true rfl) rfl rfl ?_
                  refine x_goto (tgt := 23) (pc := 2065) dL_law_2065 rfl ?_
                  cases hf
                  exact x_fgt (axS' (axS' (axS' (axS' (axS' (axN' (axN' (axN' (axN' axD))))))))) (h1 _ rfl)
                · replace hf := (if_neg h135).symm.trans hf
                  cases hf
            · replace hf := (if_neg h133).symm.trans hf
              cases hf
          · replace hf := (if_neg h129).symm.trans hf
            cases hf
        · replace hf := (if_neg h125).symm.trans hf
          cases hf
      replace hf := (if_neg h124).symm.trans hf
      by_cases h136 : (iand (X (Int.toNat v4)) 63) = 2
      · replace hf := (if_pos h136).symm.trans hf
        refine x_tabIn (tgt := 376) 2 (pc := 40) dL_law_40 h136 (by decide) (by decide) rfl rfl ?_
        refine x_aload_n (pc := 376) dL_law_376 rfl ?_
        obtain ⟨v139, M138, r137, hf⟩ := bd2_some hf
        refine x_cr (v := vI v139) (vs := [vR 150]) (rest := []) (k := 2) rfl (by omega) (ax_caV (pc := 377) dL_law_377 kX12_teach rfl rfl WM_L_118 WI_X12_teach WS_X12_teach WN_X12 (ax_rcO (t := 10) (axEx hG rfl) rfl (by decide)) (Nat.le_of_ble_eq_true rfl)) kX12_teach rfl True.intro (T_X12_teach (by omega) hG r137) ?_
        refine x_aload_n (pc := 380) dL_law_380 rfl ?_
        obtain ⟨v142, M141, r140, hf⟩ := bd2_some hf
        refine x_cr (v := vI v142) (vs := [vR 203]) (rest := [vI v139]) (k := 0) rfl (by omega) (ax_caV (pc := 381) dL_law_381 kX14_teach rfl rfl WM_L_121 WI_X14_teach WS_X14_teach WN_X14 (ax_rcO (t := 12) (axEx hG rfl) rfl (by decide)) (Nat.le_of_ble_eq_true rfl)) kX14_teach rfl True.intro (T_X14_teach (by omega) hG r140) ?_
        refine x_icmpeq (tgt := 2062) (pc := 384) dL_law_384 rfl (fun h143 => ?_) (fun h143 => ?_)
        · replace hf := (if_pos h143).symm.trans hf
          refine x_iincw (ls' := [some (vR 0), some (vR 150), some (vR 203), some (vR 243), some (vI (wr (v4 + 6))), none, none, none, none]) (pc := 2062) dL_law_2062 rfl (Nat.le_of_ble_eq_true rfl) rfl rfl ?_
          refine x_goto (tgt := 23) (pc := 2065) dL_law_2065 rfl ?_
          cases hf
          exact h1 _ rfl
        · replace hf := (if_neg h143).symm.trans hf
          cases hf
      replace hf := (if_neg h136).symm.trans hf
      by_cases h144 : (iand (X (Int.toNat v4)) 63) = 3
      · replace hf := (if_pos h144).symm.trans hf
        refine x_tabIn (tgt := 389) 3 (pc := 40) dL_law_40 h144 (by decide) (by decide) rfl rfl ?_
        refine x_aload_n (pc := 389) dL_law_389 rfl ?_
        refine x_cr (v := vI (fX12_errorAt M)) (vs := [vR 150]) (rest := []) (k := 0) rfl (by omega) (ax_caV (pc := 390) dL_law_390 kX12_errorAt rfl rfl WM_L_122 WI_X12_errorAt WS_X12_errorAt WN_X12 (ax_rcO (t := 10) (axEx hG rfl) rfl (by decide)) (Nat.le_of_ble_eq_true rfl)) kX12_errorAt rfl True.intro (T_X12_errorAt (by omega) hG rfl) ?_
        refine x_aload_n (pc := 393) dL_law_393 rfl ?_
        obtain ⟨v147, M146, r145, hf⟩ := bd2_some hf
        refine x_cr (v := vI v147) (vs := [vR 203]) (rest := [vI (fX12_errorAt M)]) (k := 0) rfl (by omega) (ax_caV (pc := 394) dL_law_394 kX14_errorAt rfl rfl WM_L_125 WI_X14_errorAt WS_X14_errorAt WN_X14 (ax_rcO (t := 12) (axEx hG rfl) rfl (by decide)) (Nat.le_of_ble_eq_true rfl)) kX14_errorAt rfl True.intro (T_X14_errorAt (by omega) hG r145) ?_
        refine x_icmpeq (tgt := 2062) (pc := 397) dL_law_397 rfl (fun h148 => ?_) (fun h148 => ?_)
        · replace hf := (if_pos h148).symm.trans hf
          refine x_iincw (ls' := [some (vR 0), some (vR 150), some (vR 203), some (vR 243), some (vI (wr (v4 + 6))), none, none, none, none]) (pc := 2062) dL_law_2062 rfl (Nat.le_of_ble_eq_true rfl) rfl rfl ?_
          refine x_goto (tgt := 23) (pc := 2065) dL_law_2065 rfl ?_
          cases hf
          exact h1 _ rfl
        · replace hf := (if_neg h148).symm.trans hf
          cases hf
      replace hf := (if_neg h144).symm.trans hf
      by_cases h149 : (iand (X (Int.toNat v4)) 63) = 4
      · replace hf := (if_pos h149).symm.trans hf
        refine x_tabIn (tgt := 402) 4 (pc := 40) dL_law_40 h149 (by decide) (by decide) rfl rfl ?_
        refine x_aload_n (pc := 402) dL_law_402 rfl ?_
        refine x_cr (v := vI (fX12_columns M)) (vs := [vR 150]) (rest := []) (k := 0) rfl (by omega) (ax_caV (pc := 403) dL_law_403 kX12_columns rfl rfl WM_L_126 WI_X12_columns WS_X12_columns WN_X12 (ax_rcO (t := 10) (axEx hG rfl) rfl (by decide)) (Nat.le_of_ble_eq_true rfl)) kX12_columns rfl True.intro (T_X12_columns (by omega) hG rfl) ?_
        refine x_aload_n (pc := 406) dL_law_406 rfl ?_
        obtain ⟨v152, M151, r150, hf⟩ := bd2_some hf
        refine x_cr (v := vI v152) (vs := [vR 203]) (rest := [vI (fX12_columns M)]) (k := 0) rfl (by omega) (ax_caV (pc := 407) dL_law_407 kX14_columns rfl rfl WM_L_129 WI_X14_columns WS_X14_columns WN_X14 (ax_rcO (t := 12) (axEx hG rfl) rfl (by decide)) (Nat.le_of_ble_eq_true rfl)) kX14_columns rfl True.intro (T_X14_columns (by omega) hG r150) ?_
        refine x_icmpeq (tgt := 2062) (pc := 410) dL_law_410 rfl (fun h153 => ?_) (fun h153 => ?_)
        · replace hf := (if_pos h153).symm.trans hf
          refine x_iincw (ls' := [some (vR 0), some (vR 150), some (vR 203), some (vR 243), some (vI (wr (v4 + 6))), none, none, none, none]) (pc := 2062) dL_law_2062 rfl (Nat.le_of_ble_eq_true rfl) rfl rfl ?_
          refine x_goto (tgt := 23) (pc := 2065) dL_law_2065 rfl ?_
          cases hf
          exact h1 _ rfl
        · replace hf := (if_neg h153).symm.trans hf
          cases hf
      replace hf := (if_neg h149).symm.trans hf
      by_cases h154 : (iand (X (Int.toNat v4)) 63) = 5
      · replace hf := (if_pos h154).symm.trans hf
        refine x_tabIn (tgt := 415) 5 (pc := 40) dL_law_40 h154 (by decide) (by decide) rfl rfl ?_
        refine x_aload_n (pc := 415) dL_law_415 rfl ?_
        refine x_cr (v := vI (fX12_rows M)) (vs := [vR 150]) (rest := []) (k := 0) rfl (by omega) (ax_caV (pc := 416) dL_law_416 kX12_rows rfl rfl WM_L_130 WI_X12_rows WS_X12_rows WN_X12 (ax_rcO (t := 10) (axEx hG rfl) rfl (by decide)) (Nat.le_of_ble_eq_true rfl)) kX12_rows rfl True.intro (T_X12_rows (by omega) hG rfl) ?_
        refine x_aload_n (pc := 419) dL_law_419 rfl ?_
        obtain ⟨v157, M156, r155, hf⟩ := bd2_some hf
        refine x_cr (v := vI v157) (vs := [vR 203]) (rest := [vI (fX12_rows M)]) (k := 0) rfl (by omega) (ax_caV (pc := 420) dL_law_420 kX14_rows rfl rfl WM_L_133 WI_X14_rows WS_X14_rows WN_X14 (ax_rcO (t := 12) (axEx hG rfl) rfl (by decide)) (Nat.le_of_ble_eq_true rfl)) kX14_rows rfl True.intro (T_X14_rows (by omega) hG r155) ?_
        refine x_icmpeq (tgt := 2062) (pc := 423) dL_law_423 rfl (fun h158 => ?_) (fun h158 => ?_)
        · replace hf := (if_pos h158).symm.trans hf
          refine x_iincw (ls' := [some (vR 0), some (vR 150), some (vR 203), some (vR 243), some (vI (wr (v4 + 6))), none, none, none, none]) (pc := 2062) dL_law_2062 rfl (Nat.le_of_ble_eq_true rfl) rfl rfl ?_
          refine x_goto (tgt := 23) (pc := 2065) dL_law_2065 rfl ?_
          cases hf
          exact h1 _ rfl
        · replace hf := (if_neg h158).symm.trans hf
          cases hf
      replace hf := (if_neg h154).symm.trans hf
      by_cases h159 : (iand (X (Int.toNat v4)) 63) = 6
      · replace hf := (if_pos h159).symm.trans hf
        refine x_tabIn (tgt := 428) 6 (pc := 40) dL_law_40 h159 (by decide) (by decide) rfl rfl ?_
        refine x_aload_n (pc := 428) dL_law_428 rfl ?_
        obtain ⟨v161, r160, hf⟩ := bd1_some hf
        refine x_cr (v := vI v161) (vs := [vR 150]) (rest := []) (k := 0) rfl (by omega) (ax_caV (pc := 429) dL_law_429 kX12_plans rfl rfl WM_L_134 WI_X12_plans WS_X12_plans WN_X12 (ax_rcO (t := 10) (axEx hG rfl) rfl (by decide)) (Nat.le_of_ble_eq_true rfl)) kX12_plans rfl True.intro (T_X12_plans (by omega) hG r160) ?_
        refine x_aload_n (pc := 432) dL_law_432 rfl ?_
        obtain ⟨v164, M163, r162, hf⟩ := bd2_some hf
        refine x_cr (v := vI v164) (vs := [vR 203]) (rest := [vI v161]) (k := 0) rfl (by omega) (ax_caV (pc := 433) dL_law_433 kX14_plans rfl rfl WM_L_137 WI_X14_plans WS_X14_plans WN_X14 (ax_rcO (t := 12) (axEx hG rfl) rfl (by decide)) (Nat.le_of_ble_eq_true rfl)) kX14_plans rfl True.intro (T_X14_plans (by omega) hG r162) ?_
        refine x_icmpeq (tgt := 2062) (pc := 436) dL_law_436 rfl (fun h165 => ?_) (fun h165 => ?_)
        · replace hf := (if_pos h165).symm.trans hf
          refine x_iincw (ls' := [some (vR 0), some (vR 150), some (vR 203), some (vR 243), some (vI (wr (v4 + 6))), none, none, none, none]) (pc := 2062) dL_law_2062 rfl (Nat.le_of_ble_eq_true rfl) rfl rfl ?_
          refine x_goto (tgt := 23) (pc := 2065) dL_law_2065 rfl ?_
          cases hf
          exact h1 _ rfl
        · replace hf := (if_neg h165).symm.trans hf
          cases hf
      replace hf := (if_neg h159).symm.trans hf
      by_cases h166 : (iand (X (Int.toNat v4)) 63) = 7
      · replace hf := (if_pos h166).symm.trans hf
        refine x_tabIn (tgt := 441) 7 (pc := 40) dL_law_40 h166 (by decide) (by decide) rfl rfl ?_
        refine x_aload_n (pc := 441) dL_law_441 rfl ?_
        refine x_cr (v := vI (fX12_stonesToTakeBack M)) (vs := [vR 150]) (rest := []) (k := 0) rfl (by omega) (ax_caV (pc := 442) dL_law_442 kX12_stonesToTakeBack rfl rfl WM_L_138 WI_X12_stonesToTakeBack WS_X12_stonesToTakeBack WN_X12 (ax_rcO (t := 10) (axEx hG rfl) rfl (by decide)) (Nat.le_of_ble_eq_true rfl)) kX12_stonesToTakeBack rfl True.intro (T_X12_stonesToTakeBack (by omega) hG rfl) ?_
        refine x_aload_n (pc := 445) dL_law_445 rfl ?_
        obtain ⟨v169, M168, r167, hf⟩ := bd2_some hf
        refine x_cr (v := vI v169) (vs := [vR 203]) (rest := [vI (fX12_stonesToTakeBack M)]) (k := 0) rfl (by omega) (ax_caV (pc := 446) dL_law_446 kX14_stonesToTakeBack rfl rfl WM_L_141 WI_X14_stonesToTakeBack WS_X14_stonesToTakeBack WN_X14 (ax_rcO (t := 12) (axEx hG rfl) rfl (by decide)) (Nat.le_of_ble_eq_true rfl)) kX14_stonesToTakeBack rfl True.intro (T_X14_stonesToTakeBack (by omega) hG r167) ?_
        refine x_icmpeq (tgt := 2062) (pc := 449) dL_law_449 rfl (fun h170 => ?_) (fun h170 => ?_)
        · replace hf := (if_pos h170).symm.trans hf
          refine x_iincw (ls' := [some (vR 0), some (vR 150), some (vR 203), some (vR 243), some (vI (wr (v4 + 6))), none, none, none, none]) (pc := 2062) dL_law_2062 rfl (Nat.le_of_ble_eq_true rfl) rfl rfl ?_
          refine x_goto (tgt := 23) (pc := 2065) dL_law_2065 rfl ?_
          cases hf
          exact h1 _ rfl
        · replace hf := (if_neg h170).symm.trans hf
          cases hf
      replace hf := (if_neg h166).symm.trans hf
      by_cases h171 : (iand (X (Int.toNat v4)) 63) = 8
      · replace hf := (if_pos h171).symm.trans hf
        refine x_tabIn (tgt := 454) 8 (pc := 40) dL_law_40 h171 (by decide) (by decide) rfl rfl ?_
        refine x_aload_n (pc := 454) dL_law_454 rfl ?_
        refine x_cr (v := vI (fX12_tapeBytes M)) (vs := [vR 150]) (rest := []) (k := 0) rfl (by omega) (ax_caV (pc := 455) dL_law_455 kX12_tapeBytes rfl rfl WM_L_142 WI_X12_tapeBytes WS_X12_tapeBytes WN_X12 (ax_rcO (t := 10) (axEx hG rfl) rfl (by decide)) (Nat.le_of_ble_eq_true rfl)) kX12_tapeBytes rfl True.intro (T_X12_tapeBytes (by omega) hG rfl) ?_
        refine x_aload_n (pc := 458) dL_law_458 rfl ?_
        obtain ⟨v174, M173, r172, hf⟩ := bd2_some hf
        refine x_cr (v := vI v174) (vs := [vR 203]) (rest := [vI (fX12_tapeBytes M)]) (k := 0) rfl (by omega) (ax_caV (pc := 459) dL_law_459 kX14_tapeBytes rfl rfl WM_L_145 WI_X14_tapeBytes WS_X14_tapeBytes WN_X14 (ax_rcO (t := 12) (axEx hG rfl) rfl (by decide)) (Nat.le_of_ble_eq_true rfl)) kX14_tapeBytes rfl True.intro (T_X14_tapeBytes (by omega) hG r172) ?_
        refine x_icmpeq (tgt := 2062) (pc := 462) dL_law_462 rfl (fun h175 => ?_) (fun h175 => ?_)
        · replace hf := (if_pos h175).symm.trans hf
          refine x_iincw (ls' := [some (vR 0), some (vR 150), some (vR 203), some (vR 243), some (vI (wr (v4 + 6))), none, none, none, none]) (pc := 2062) dL_law_2062 rfl (Nat.le_of_ble_eq_true rfl) rfl rfl ?_
          refine x_goto (tgt := 23) (pc := 2065) dL_law_2065 rfl ?_
          cases hf
          exact h1 _ rfl
        · replace hf := (if_neg h175).symm.trans hf
          cases hf
      replace hf := (if_neg h171).symm.trans hf
      by_cases h176 : (iand (X (Int.toNat v4)) 63) = 9
      · replace hf := (if_pos h176).symm.trans hf
        refine x_tabIn (tgt := 467) 9 (pc := 40) dL_law_40 h176 (by decide) (by decide) rfl rfl ?_
        refine x_aload_n (pc := 467) dL_law_467 rfl ?_
        refine x_cr (v := vI (fX12_emptyCells M)) (vs := [vR 150]) (rest := []) (k := 0) rfl (by omega) (ax_caV (pc := 468) dL_law_468 kX12_emptyCells rfl rfl WM_L_146 WI_X12_emptyCells WS_X12_emptyCells WN_X12 (ax_rcO (t := 10) (axEx hG rfl) rfl (by decide)) (Nat.le_of_ble_eq_true rfl)) kX12_emptyCells rfl True.intro (T_X12_emptyCells (by omega) hG rfl) ?_
        refine x_aload_n (pc := 471) dL_law_471 rfl ?_
        obtain ⟨v179, M178, r177, hf⟩ := bd2_some hf
        refine x_cr (v := vI v179) (vs := [vR 203]) (rest := [vI (fX12_emptyCells M)]) (k := 0) rfl (by omega) (ax_caV (pc := 472) dL_law_472 kX14_emptyCells rfl rfl WM_L_149 WI_X14_emptyCells WS_X14_emptyCells WN_X14 (ax_rcO (t := 12) (axEx hG rfl) rfl (by decide)) (Nat.le_of_ble_eq_true rfl)) kX14_emptyCells rfl True.intro (T_X14_emptyCells (by omega) hG r177) ?_
        refine x_icmpeq (tgt := 2062) (pc := 475) dL_law_475 rfl (fun h180 => ?_) (fun h180 => ?_)
        · replace hf := (if_pos h180).symm.trans hf
          refine x_iincw (ls' := [some (vR 0), some (vR 150), some (vR 203), some (vR 243), some (vI (wr (v4 + 6))), none, none, none, none]) (pc := 2062) dL_law_2062 rfl (Nat.le_of_ble_eq_true rfl) rfl rfl ?_
          refine x_goto (tgt := 23) (pc := 2065) dL_law_2065 rfl ?_
          cases hf
          exact h1 _ rfl
        · replace hf := (if_neg h180).symm.trans hf
          cases hf
      replace hf := (if_neg h176).symm.trans hf
      by_cases h181 : (iand (X (Int.toNat v4)) 63) = 10
      · replace hf := (if_pos h181).symm.trans hf
        refine x_tabIn (tgt := 480) 10 (pc := 40) dL_law_40 h181 (by decide) (by decide) rfl rfl ?_
        refine x_aload_n (pc := 480) dL_law_480 rfl ?_
        refine x_aload_n (pc := 481) dL_law_481 rfl ?_
        refine x_iload (pc := 482) dL_law_482 rfl ?_
        refine x_iconst (pc := 484) dL_law_484 ⟨by decide, by decide⟩ ?_
        refine x_iadd (z := (v4 + 1)) (pc := 485) dL_law_485 rfl (ax_i (by omega) (by omega)) ?_
        by_cases h182 : 0 ≤ (v4 + 1) ∧ (v4 + 1) < N
        · replace hf := (if_pos h182).symm.trans hf
          refine x_saldN hSX hSN hXi (pc := 486) dL_law_486 h182.1 h182.2 ?_
          refine x_aload_n (pc := 487) dL_law_487 rfl ?_
          obtain ⟨v185, M184, r183, hf⟩ := bd2_some hf
          refine x_cr (v := vI v185) (vs := [vR 150, vI (X (Int.toNat (v4 + 1))), vR 243]) (rest := []) (k := 1) rfl (by omega) (ax_caSH (pc := 488) dL_law_488 kL_stonesOf (by decide) rfl WM_L_150 WT_L_stonesOf WN_L (Nat.le_of_ble_eq_true rfl)) kL_stonesOf rfl True.intro (T_L_stonesOf (by omega) hG hX r183) ?_
          refine x_istore (ls' := [some (vR 0), some (vR 150), some (vR 203), some (vR 243), some (vI v4), some (vI v185), none, none, none]) (pc := 491) dL_law_491 (Nat.le_of_ble_eq_true rfl) rfl rfl ?_
          refine x_aload_n (pc := 493) dL_law_493 rfl ?_
          refine x_aload_n (pc := 494) dL_law_494 rfl ?_
          refine x_iload (pc := 495) dL_law_495 rfl ?_
          refine x_iconst (pc := 497) dL_law_497 ⟨by decide, by decide⟩ ?_
          refine x_iadd (z := (v4 + 1)) (pc := 498) dL_law_498 rfl (ax_i (by omega) (by omega)) ?_
          by_cases h186 : 0 ≤ (v4 + 1) ∧ (v4 + 1) < N
          · replace hf := (if_pos h186).symm.trans hf
            refine x_saldN hSX hSN hXi (pc := 499) dL_law_499 h186.1 h186.2 ?_
            obtain ⟨v189, M188, r187, hf⟩ := bd2_some hf
            refine x_cr (v := vI v189) (vs := [vR 203, vI (X (Int.toNat (v4 + 1)))]) (rest := []) (k := 0) rfl (by omega) (ax_caV (pc := 500) dL_law_500 kX14_stonesOf rfl rfl WM_L_152 WI_X14_stonesOf WS_X14_stonesOf WN_X14 (ax_rcO (t := 12) (axEx hG rfl) rfl (by decide)) (Nat.le_of_ble_eq_true rfl)) kX14_stonesOf rfl True.intro (T_X14_stonesOf (by omega) hG r187) ?_
            refine x_istore (ls' := [some (vR 0), some (vR 150), some (vR 203), some (vR 243), some (vI v4), some (vI v185), some (vI v189), none, none]) (pc := 503) dL_law_503 (Nat.le_of_ble_eq_true rfl) rfl rfl ?_
            refine x_aload_n (pc := 505) dL_law_505 rfl ?_
            refine x_cr (v := vI (fX14_thrown M188)) (vs := [vR 203]) (rest := []) (k := 0) rfl (by omega) (ax_caV (pc := 506) dL_law_506 kX14_thrown rfl rfl WM_L_111 WI_X14_thrown WS_X14_thrown WN_X14 (ax_rcO (t := 12) (axEx hG rfl) rfl (by decide)) (Nat.le_of_ble_eq_true rfl)) kX14_thrown rfl True.intro (T_X14_thrown (by omega) hG rfl) ?_
            refine x_iload (pc := 509) dL_law_509 rfl ?_
            refine x_icmpeq (tgt := 516) (pc := 511) dL_law_511 rfl (fun h190 => ?_) (fun h190 => ?_)
            · replace hf := (if_pos h190).symm.trans hf
              refine x_iload (pc := 516) dL_law_516 rfl ?_
              refine x_ifne (tgt := 533) (pc := 518) dL_law_518 rfl (fun h191 => ?_) (fun h191 => ?_)
              · replace hf := (if_neg h191).symm.trans hf
                refine x_goto (tgt := 2062) (pc := 533) dL_law_533 rfl ?_
                refine x_iincw (ls' := [some (vR 0), some (vR 150), some (vR 203), some (vR 243), some (vI (wr (v4 + 6))), some (vI v185), some (vI v189), none, none]) (pc := 2062) dL_law_2062 rfl (Nat.le_of_ble_eq_true rfl) rfl rfl ?_
                refine x_goto (tgt := 23) (pc := 2065) dL_law_2065 rfl ?_
                cases hf
                exact x_fgt (axS' (axS' (axS' (axS' (axS' (axN' (axN' (axN' (axN' axD))))))))) (h1 _ rfl)
              · replace hf := (if_pos h191).symm.trans hf
                refine x_aload_n (pc := 521) dL_law_521 rfl ?_
                refine x_iconst (pc := 522) dL_law_522 ⟨by decide, by decide⟩ ?_
                refine x_lald (j := 0) (n := 1) (pc := 523) dL_law_523 (axEx hG rfl) rfl rfl (by decide) ?_
                refine x_iload (pc := 524) dL_law_524 rfl ?_
                refine x_i2l (pc := 526) dL_law_526 ?_
                refine x_lcmp (z := (ilc (mJ M188 243 0) (il v189))) (pc := 527) dL_law_527 rfl ?_
                refine x_ifeq (tgt := 533) (pc := 528) dL_law_528 rfl (fun h192 => ?_) (fun h192 => ?_)
                · replace hf := (if_pos h192).symm.trans hf
                  refine x_goto (tgt := 2062) (pc := 533) dL_law_533 rfl ?_
                  refine x_iincw (ls' := [some (vR 0), some (vR 150), some (vR 203), some (vR 243), some (vI (wr (v4 + 6))), some (vI v185), some (vI v189), none, none]) (pc := 2062) dL_law_2062 rfl (Nat.le_of_ble_eq_true rfl) rfl rfl ?_
                  refine x_goto (tgt := 23) (pc := 2065) dL_law_2065 rfl ?_
                  cases hf
                  exact x_fgt (axS' (axS' (axS' (axS' (axS' (axN' (axN' (axN' (axN' axD))))))))) (h1 _ rfl)
                · replace hf := (if_neg h192).symm.trans hf
                  cases hf
            · replace hf := (if_neg h190).symm.trans hf
              cases hf
          · replace hf := (if_neg h186).symm.trans hf
            cases hf
        · replace hf := (if_neg h182).symm.trans hf
          cases hf
      replace hf := (if_neg h181).symm.trans hf
      by_cases h193 : (iand (X (Int.toNat v4)) 63) = 11
      · replace hf := (if_pos h193).symm.trans hf
        refine x_tabIn (tgt := 536) 11 (pc := 40) dL_law_40 h193 (by decide) (by decide) rfl rfl ?_
        refine x_aload_n (pc := 536) dL_law_536 rfl ?_
        refine x_aload_n (pc := 537) dL_law_537 rfl ?_
        refine x_iload (pc := 538) dL_law_538 rfl ?_
        refine x_iconst (pc := 540) dL_law_540 ⟨by decide, by decide⟩ ?_
        refine x_iadd (z := (v4 + 1)) (pc := 541) dL_law_541 rfl (ax_i (by omega) (by omega)) ?_
        by_cases h194 : 0 ≤ (v4 + 1) ∧ (v4 + 1) < N
        · replace hf := (if_pos h194).symm.trans hf
          refine x_saldN hSX hSN hXi (pc := 542) dL_law_542 h194.1 h194.2 ?_
          refine x_aload_n (pc := 543) dL_law_543 rfl ?_
          refine x_iload (pc := 544) dL_law_544 rfl ?_
          refine x_iconst (pc := 546) dL_law_546 ⟨by decide, by decide⟩ ?_
          refine x_iaddw (pc := 547) dL_law_547 ?_
          by_cases h195 : 0 ≤ (wr (v4 + 2)) ∧ (wr (v4 + 2)) < N
          · replace hf := (if_pos h195).symm.trans hf
            refine x_saldN hSX hSN hXi (pc := 548) dL_law_548 h195.1 h195.2 ?_
            refine x_aload_n (pc := 549) dL_law_549 rfl ?_
            obtain ⟨v198, M197, r196, hf⟩ := bd2_some hf
            refine x_cr (v := vI v198) (vs := [vR 150, vI (X (Int.toNat (v4 + 1))), vI (X (Int.toNat (wr (v4 + 2)))), vR 243]) (rest := []) (k := 1) rfl (by omega) (ax_caSH (pc := 550) dL_law_550 kL_isEmpty (by decide) rfl WM_L_153 WT_L_isEmpty WN_L (Nat.le_of_ble_eq_true rfl)) kL_isEmpty rfl True.intro (T_L_isEmpty (by omega) hG hX r196) ?_
            refine x_istore (ls' := [some (vR 0), some (vR 150), some (vR 203), some (vR 243), some (vI v4), some (vI v198), none, none, none]) (pc := 553) dL_law_553 (Nat.le_of_ble_eq_true rfl) rfl rfl ?_
            refine x_aload_n (pc := 555) dL_law_555 rfl ?_
            refine x_aload_n (pc := 556) dL_law_556 rfl ?_
            refine x_iload (pc := 557) dL_law_557 rfl ?_
            refine x_iconst (pc := 559) dL_law_559 ⟨by decide, by decide⟩ ?_
            refine x_iadd (z := (v4 + 1)) (pc := 560) dL_law_560 rfl (ax_i (by omega) (by omega)) ?_
            by_cases h199 : 0 ≤ (v4 + 1) ∧ (v4 + 1) < N
            · replace hf := (if_pos h199).symm.trans hf
              refine x_saldN hSX hSN hXi (pc := 561) dL_law_561 h199.1 h199.2 ?_
              refine x_aload_n (pc := 562) dL_law_562 rfl ?_
              refine x_iload (pc := 563) dL_law_563 rfl ?_
              refine x_iconst (pc := 565) dL_law_565 ⟨by decide, by decide⟩ ?_
              refine x_iaddw (pc := 566) dL_law_566 ?_
              by_cases h200 : 0 ≤ (wr (v4 + 2)) ∧ (wr (v4 + 2)) < N
              · replace hf := (if_pos h200).symm.trans hf
                refine x_saldN hSX hSN hXi (pc := 567) dL_law_567 h200.1 h200.2 ?_
                obtain ⟨v203, M202, r201, hf⟩ := bd2_some hf
                refine x_cr (v := vI v203) (vs := [vR 203, vI (X (Int.toNat (v4 + 1))), vI (X (Int.toNat (wr (v4 + 2))))]) (rest := []) (k := 0) rfl (by omega) (ax_caV (pc := 568) dL_law_568 kX14_isEmpty rfl rfl WM_L_156 WI_X14_isEmpty WS_X14_isEmpty WN_X14 (ax_rcO (t := 12) (axEx hG rfl) rfl (by decide)) (Nat.le_of_ble_eq_true rfl)) kX14_isEmpty rfl (Z_X14_isEmpty r201) (T_X14_isEmpty (by omega) hG r201) ?_
                refine x_istore (ls' := [some (vR 0), some (vR 150), some (vR 203), some (vR 243), some (vI v4), some (vI v198), some (vI v203), none, none]) (pc := 571) dL_law_571 (Nat.le_of_ble_eq_true rfl) rfl rfl ?_
                refine x_aload_n (pc := 573) dL_law_573 rfl ?_
                refine x_cr (v := vI (fX14_thrown M202)) (vs := [vR 203]) (rest := []) (k := 0) rfl (by omega) (ax_caV (pc := 574) dL_law_574 kX14_thrown rfl rfl WM_L_111 WI_X14_thrown WS_X14_thrown WN_X14 (ax_rcO (t := 12) (axEx hG rfl) rfl (by decide)) (Nat.le_of_ble_eq_true rfl)) kX14_thrown rfl True.intro (T_X14_thrown (by omega) hG rfl) ?_
                refine x_iload (pc := 577) dL_law_577 rfl ?_
                refine x_icmpeq (tgt := 584) (pc := 579) dL_law_579 rfl (fun h204 => ?_) (fun h204 => ?_)
                · replace hf := (if_pos h204).symm.trans hf
                  refine x_iload (pc := 584) dL_law_584 rfl ?_
                  refine x_ifne (tgt := 608) (pc := 586) dL_law_586 rfl (fun h205 => ?_) (fun h205 => ?_)
                  · replace hf := (if_neg h205).symm.trans hf
                    refine x_goto (tgt := 2062) (pc := 608) dL_law_608 rfl ?_
                    refine x_iincw (ls' := [some (vR 0), some (vR 150), some (vR 203), some (vR 243), some (vI (wr (v4 + 6))), some (vI v198), some (vI v203), none, none]) (pc := 2062) dL_law_2062 rfl (Nat.le_of_ble_eq_true rfl) rfl rfl ?_
                    refine x_goto (tgt := 23) (pc := 2065) dL_law_2065 rfl ?_
                    cases hf
                    exact x_fgt (axS' (axS' (axS' (axS' (axS' (axN' (axN' (axN' (axN' axD))))))))) (h1 _ rfl)
                  · replace hf := (if_pos h205).symm.trans hf
                    refine x_aload_n (pc := 589) dL_law_589 rfl ?_
                    refine x_iconst (pc := 590) dL_law_590 ⟨by decide, by decide⟩ ?_
                    refine x_lald (j := 0) (n := 1) (pc := 591) dL_law_591 (axEx hG rfl) rfl rfl (by decide) ?_
                    refine x_iload (pc := 592) dL_law_592 rfl ?_
                    refine x_ifeq (tgt := 601) (pc := 594) dL_law_594 rfl (fun h206 => ?_) (fun h206 => ?_)
                    · replace hf := (if_pos h206).symm.trans hf
                      refine x_lconst (pc := 601) dL_law_601 ?_
                      refine x_lcmp (z := (ilc (mJ M202 243 0) (Int64.ofNat 0))) (pc := 602) dL_law_602 rfl ?_
                      refine x_ifeq (tgt := 608) (pc := 603) dL_law_603 rfl (fun h207 => ?_) (fun h207 => ?_)
                      · replace hf := (if_pos h207).symm.trans hf
                        refine x_goto (tgt := 2062) (pc := 608) dL_law_608 rfl ?_
                        refine x_iincw (ls' := [some (vR 0), some (vR 150), some (vR 203), some (vR 243), some (vI (wr (v4 + 6))), some (vI v198), some (vI v203), none, none]) (pc := 2062) dL_law_2062 rfl (Nat.le_of_ble_eq_true rfl) rfl rfl ?_
                        refine x_goto (tgt := 23) (pc := 2065) dL_law_2065 rfl ?_
                        cases hf
                        exact x_fgt (axS' (axS' (axS' (axS' (axS' (axN' (axN' (axN' (axN' axD))))))))) (h1 _ rfl)
                      · replace hf := (if_neg h207).symm.trans hf
                        cases hf
                    · replace hf := (if_neg h206).symm.trans hf
                      refine x_lconst (pc := 597) dL_law_597 ?_
                      refine x_goto (tgt := 602) (pc := 598) dL_law_598 rfl ?_
                      refine x_lcmp (z := (ilc (mJ M202 243 0) (Int64.ofNat 1))) (pc := 602) dL_law_602 rfl ?_
                      refine x_ifeq (tgt := 608) (pc := 603) dL_law_603 rfl (fun h208 => ?_) (fun h208 => ?_)
                      · replace hf := (if_pos h208).symm.trans hf
                        refine x_goto (tgt := 2062) (pc := 608) dL_law_608 rfl ?_
                        refine x_iincw (ls' := [some (vR 0), some (vR 150), some (vR 203), some (vR 243), some (vI (wr (v4 + 6))), some (vI v198), some (vI v203), none, none]) (pc := 2062) dL_law_2062 rfl (Nat.le_of_ble_eq_true rfl) rfl rfl ?_
                        refine x_goto (tgt := 23) (pc := 2065) dL_law_2065 rfl ?_
                        cases hf
                        exact x_fgt (axS' (axS' (axS' (axS' (axS' (axN' (axN' (axN' (axN' axD))))))))) (h1 _ rfl)
                      · replace hf := (if_neg h208).symm.trans hf
                        cases hf
                · replace hf := (if_neg h204).symm.trans hf
                  cases hf
              · replace hf := (if_neg h200).symm.trans hf
                cases hf
            · replace hf := (if_neg h199).symm.trans hf
              cases hf
          · replace hf := (if_neg h195).symm.trans hf
            cases hf
        · replace hf := (if_neg h194).symm.trans hf
          cases hf
      replace hf := (if_neg h193).symm.trans hf
      by_cases h209 : (iand (X (Int.toNat v4)) 63) = 12
      · replace hf := (if_pos h209).symm.trans hf
        refine x_tabIn (tgt := 611) 12 (pc := 40) dL_law_40 h209 (by decide) (by decide) rfl rfl ?_
        refine x_aload_n (pc := 611) dL_law_611 rfl ?_
        refine x_aload_n (pc := 612) dL_law_612 rfl ?_
        refine x_iload (pc := 613) dL_law_613 rfl ?_
        refine x_iconst (pc := 615) dL_law_615 ⟨by decide, by decide⟩ ?_
        refine x_iadd (z := (v4 + 1)) (pc := 616) dL_law_616 rfl (ax_i (by omega) (by omega)) ?_
        by_cases h210 : 0 ≤ (v4 + 1) ∧ (v4 + 1) < N
        · replace hf := (if_pos h210).symm.trans hf
          refine x_saldN hSX hSN hXi (pc := 617) dL_law_617 h210.1 h210.2 ?_
          refine x_aload_n (pc := 618) dL_law_618 rfl ?_
          refine x_iload (pc := 619) dL_law_619 rfl ?_
          refine x_iconst (pc := 621) dL_law_621 ⟨by decide, by decide⟩ ?_
          refine x_iaddw (pc := 622) dL_law_622 ?_
          by_cases h211 : 0 ≤ (wr (v4 + 2)) ∧ (wr (v4 + 2)) < N
          · replace hf := (if_pos h211).symm.trans hf
            refine x_saldN hSX hSN hXi (pc := 623) dL_law_623 h211.1 h211.2 ?_
            refine x_aload_n (pc := 624) dL_law_624 rfl ?_
            obtain ⟨v214, M213, r212, hf⟩ := bd2_some hf
            refine x_cr (v := vI v214) (vs := [vR 150, vI (X (Int.toNat (v4 + 1))), vI (X (Int.toNat (wr (v4 + 2)))), vR 243]) (rest := []) (k := 1) rfl (by omega) (ax_caSH (pc := 625) dL_law_625 kL_ownerOf (by decide) rfl WM_L_157 WT_L_ownerOf WN_L (Nat.le_of_ble_eq_true rfl)) kL_ownerOf rfl True.intro (T_L_ownerOf (by omega) hG hX r212) ?_
            refine x_istore (ls' := [some (vR 0), some (vR 150), some (vR 203), some (vR 243), some (vI v4), some (vI v214), none, none, none]) (pc := 628) dL_law_628 (Nat.le_of_ble_eq_true rfl) rfl rfl ?_
            refine x_aload_n (pc := 630) dL_law_630 rfl ?_
            refine x_aload_n (pc := 631) dL_law_631 rfl ?_
            refine x_iload (pc := 632) dL_law_632 rfl ?_
            refine x_iconst (pc := 634) dL_law_634 ⟨by decide, by decide⟩ ?_
            refine x_iadd (z := (v4 + 1)) (pc := 635) dL_law_635 rfl (ax_i (by omega) (by omega)) ?_
            by_cases h215 : 0 ≤ (v4 + 1) ∧ (v4 + 1) < N
            · replace hf := (if_pos h215).symm.trans hf
              refine x_saldN hSX hSN hXi (pc := 636) dL_law_636 h215.1 h215.2 ?_
              refine x_aload_n (pc := 637) dL_law_637 rfl ?_
              refine x_iload (pc := 638) dL_law_638 rfl ?_
              refine x_iconst (pc := 640) dL_law_640 ⟨by decide, by decide⟩ ?_
              refine x_iaddw (pc := 641) dL_law_641 ?_
              by_cases h216 : 0 ≤ (wr (v4 + 2)) ∧ (wr (v4 + 2)) < N
              · replace hf := (if_pos h216).symm.trans hf
                refine x_saldN hSX hSN hXi (pc := 642) dL_law_642 h216.1 h216.2 ?_
                obtain ⟨v219, M218, r217, hf⟩ := bd2_some hf
                refine x_cr (v := vI v219) (vs := [vR 203, vI (X (Int.toNat (v4 + 1))), vI (X (Int.toNat (wr (v4 + 2))))]) (rest := []) (k := 0) rfl (by omega) (ax_caV (pc := 643) dL_law_643 kX14_ownerOf rfl rfl WM_L_159 WI_X14_ownerOf WS_X14_ownerOf WN_X14 (ax_rcO (t := 12) (axEx hG rfl) rfl (by decide)) (Nat.le_of_ble_eq_true rfl)) kX14_ownerOf rfl True.intro (T_X14_ownerOf (by omega) hG r217) ?_
                refine x_istore (ls' := [some (vR 0), some (vR 150), some (vR 203), some (vR 243), some (vI v4), some (vI v214), some (vI v219), none, none]) (pc := 646) dL_law_646 (Nat.le_of_ble_eq_true rfl) rfl rfl ?_
                refine x_aload_n (pc := 648) dL_law_648 rfl ?_
                refine x_cr (v := vI (fX14_thrown M218)) (vs := [vR 203]) (rest := []) (k := 0) rfl (by omega) (ax_caV (pc := 649) dL_law_649 kX14_thrown rfl rfl WM_L_111 WI_X14_thrown WS_X14_thrown WN_X14 (ax_rcO (t := 12) (axEx hG rfl) rfl (by decide)) (Nat.le_of_ble_eq_true rfl)) kX14_thrown rfl True.intro (T_X14_thrown (by omega) hG rfl) ?_
                refine x_iload (pc := 652) dL_law_652 rfl ?_
                refine x_icmpeq (tgt := 659) (pc := 654) dL_law_654 rfl (fun h220 => ?_) (fun h220 => ?_)
                · replace hf := (if_pos h220).symm.trans hf
                  refine x_iload (pc := 659) dL_law_659 rfl ?_
                  refine x_ifne (tgt := 676) (pc := 661) dL_law_661 rfl (fun h221 => ?_) (fun h221 => ?_)
                  · replace hf := (if_neg h221).symm.trans hf
                    refine x_goto (tgt := 2062) (pc := 676) dL_law_676 rfl ?_
                    refine x_iincw (ls' := [some (vR 0), some (vR 150), some (vR 203), some (vR 243), some (vI (wr (v4 + 6))), some (vI v214), some (vI v219), none, none]) (pc := 2062) dL_law_2062 rfl (Nat.le_of_ble_eq_true rfl) rfl rfl ?_
                    refine x_goto (tgt := 23) (pc := 2065) dL_law_2065 rfl ?_
                    cases hf
                    exact x_fgt (axS' (axS' (axS' (axS' (axS' (axN' (axN' (axN' (axN' axD))))))))) (h1 _ rfl)
                  · replace hf := (if_pos h221).symm.trans hf
                    refine x_aload_n (pc := 664) dL_law_664 rfl ?_
                    refine x_iconst (pc := 665) dL_law_665 ⟨by decide, by decide⟩ ?_
                    refine x_lald (j := 0) (n := 1) (pc := 666) dL_law_666 (axEx hG rfl) rfl rfl (by decide) ?_
                    refine x_iload (pc := 667) dL_law_667 rfl ?_
                    refine x_i2l (pc := 669) dL_law_669 ?_
                    refine x_lcmp (z := (ilc (mJ M218 243 0) (il v219))) (pc := 670) dL_law_670 rfl ?_
                    refine x_ifeq (tgt := 676) (pc := 671) dL_law_671 rfl (fun h222 => ?_) (fun h222 => ?_)
                    · replace hf := (if_pos h222).symm.trans hf
                      refine x_goto (tgt := 2062) (pc := 676) dL_law_676 rfl ?_
                      refine x_iincw (ls' := [some (vR 0), some (vR 150), some (vR 203), some (vR 243), some (vI (wr (v4 + 6))), some (vI v214), some (vI v219), none, none]) (pc := 2062) dL_law_2062 rfl (Nat.le_of_ble_eq_true rfl) rfl rfl ?_
                      refine x_goto (tgt := 23) (pc := 2065) dL_law_2065 rfl ?_
                      cases hf
                      exact x_fgt (axS' (axS' (axS' (axS' (axS' (axN' (axN' (axN' (axN' axD))))))))) (h1 _ rfl)
                    · replace hf := (if_neg h222).symm.trans hf
                      cases hf
                · replace hf := (if_neg h220).symm.trans hf
                  cases hf
              · replace hf := (if_neg h216).symm.trans hf
                cases hf
            · replace hf := (if_neg h215).symm.trans hf
              cases hf
          · replace hf := (if_neg h211).symm.trans hf
            cases hf
        · replace hf := (if_neg h210).symm.trans hf
          cases hf
      replace hf := (if_neg h209).symm.trans hf
      by_cases h223 : (iand (X (Int.toNat v4)) 63) = 13
      · replace hf := (if_pos h223).symm.trans hf
        refine x_tabIn (tgt := 679) 13 (pc := 40) dL_law_40 h223 (by decide) (by decide) rfl rfl ?_
        refine x_aload_n (pc := 679) dL_law_679 rfl ?_
        refine x_aload_n (pc := 680) dL_law_680 rfl ?_
        refine x_iload (pc := 681) dL_law_681 rfl ?_
        refine x_iconst (pc := 683) dL_law_683 ⟨by decide, by decide⟩ ?_
        refine x_iadd (z := (v4 + 1)) (pc := 684) dL_law_684 rfl (ax_i (by omega) (by omega)) ?_
        by_cases h224 : 0 ≤ (v4 + 1) ∧ (v4 + 1) < N
        · replace hf := (if_pos h224).symm.trans hf
          refine x_saldN hSX hSN hXi (pc := 685) dL_law_685 h224.1 h224.2 ?_
          refine x_aload_n (pc := 686) dL_law_686 rfl ?_
          obtain ⟨v227, M226, r225, hf⟩ := bd2_some hf
          refine x_cr (v := vI v227) (vs := [vR 150, vI (X (Int.toNat (v4 + 1))), vR 243]) (rest := []) (k := 1) rfl (by omega) (ax_caSH (pc := 687) dL_law_687 kL_hasWon (by decide) rfl WM_L_160 WT_L_hasWon WN_L (Nat.le_of_ble_eq_true rfl)) kL_hasWon rfl True.intro (T_L_hasWon (by omega) hG hX r225) ?_
          refine x_istore (ls' := [some (vR 0), some (vR 150), some (vR 203), some (vR 243), some (vI v4), some (vI v227), none, none, none]) (pc := 690) dL_law_690 (Nat.le_of_ble_eq_true rfl) rfl rfl ?_
          refine x_aload_n (pc := 692) dL_law_692 rfl ?_
          refine x_aload_n (pc := 693) dL_law_693 rfl ?_
          refine x_iload (pc := 694) dL_law_694 rfl ?_
          refine x_iconst (pc := 696) dL_law_696 ⟨by decide, by decide⟩ ?_
          refine x_iadd (z := (v4 + 1)) (pc := 697) dL_law_697 rfl (ax_i (by omega) (by omega)) ?_
          by_cases h228 : 0 ≤ (v4 + 1) ∧ (v4 + 1) < N
          · replace hf := (if_pos h228).symm.trans hf
            refine x_saldN hSX hSN hXi (pc := 698) dL_law_698 h228.1 h228.2 ?_
            obtain ⟨v231, M230, r229, hf⟩ := bd2_some hf
            refine x_cr (v := vI v231) (vs := [vR 203, vI (X (Int.toNat (v4 + 1)))]) (rest := []) (k := 0) rfl (by omega) (ax_caV (pc := 699) dL_law_699 kX14_hasWon rfl rfl WM_L_162 WI_X14_hasWon WS_X14_hasWon WN_X14 (ax_rcO (t := 12) (axEx hG rfl) rfl (by decide)) (Nat.le_of_ble_eq_true rfl)) kX14_hasWon rfl (Z_X14_hasWon r229) (T_X14_hasWon (by omega) hG r229) ?_
            refine x_istore (ls' := [some (vR 0), some (vR 150), some (vR 203), some (vR 243), some (vI v4), some (vI v227), some (vI v231), none, none]) (pc := 702) dL_law_702 (Nat.le_of_ble_eq_true rfl) rfl rfl ?_
            refine x_aload_n (pc := 704) dL_law_704 rfl ?_
            refine x_cr (v := vI (fX14_thrown M230)) (vs := [vR 203]) (rest := []) (k := 0) rfl (by omega) (ax_caV (pc := 705) dL_law_705 kX14_thrown rfl rfl WM_L_111 WI_X14_thrown WS_X14_thrown WN_X14 (ax_rcO (t := 12) (axEx hG rfl) rfl (by decide)) (Nat.le_of_ble_eq_true rfl)) kX14_thrown rfl True.intro (T_X14_thrown (by omega) hG rfl) ?_
            refine x_iload (pc := 708) dL_law_708 rfl ?_
            refine x_icmpeq (tgt := 715) (pc := 710) dL_law_710 rfl (fun h232 => ?_) (fun h232 => ?_)
            · replace hf := (if_pos h232).symm.trans hf
              refine x_iload (pc := 715) dL_law_715 rfl ?_
              refine x_ifne (tgt := 739) (pc := 717) dL_law_717 rfl (fun h233 => ?_) (fun h233 => ?_)
              · replace hf := (if_neg h233).symm.trans hf
                refine x_goto (tgt := 2062) (pc := 739) dL_law_739 rfl ?_
                refine x_iincw (ls' := [some (vR 0), some (vR 150), some (vR 203), some (vR 243), some (vI (wr (v4 + 6))), some (vI v227), some (vI v231), none, none]) (pc := 2062) dL_law_2062 rfl (Nat.le_of_ble_eq_true rfl) rfl rfl ?_
                refine x_goto (tgt := 23) (pc := 2065) dL_law_2065 rfl ?_
                cases hf
                exact x_fgt (axS' (axS' (axS' (axS' (axS' (axN' (axN' (axN' (axN' axD))))))))) (h1 _ rfl)
              · replace hf := (if_pos h233).symm.trans hf
                refine x_aload_n (pc := 720) dL_law_720 rfl ?_
                refine x_iconst (pc := 721) dL_law_721 ⟨by decide, by decide⟩ ?_
                refine x_lald (j := 0) (n := 1) (pc := 722) dL_law_722 (axEx hG rfl) rfl rfl (by decide) ?_
                refine x_iload (pc := 723) dL_law_723 rfl ?_
                refine x_ifeq (tgt := 732) (pc := 725) dL_law_725 rfl (fun h234 => ?_) (fun h234 => ?_)
                · replace hf := (if_pos h234).symm.trans hf
                  refine x_lconst (pc := 732) dL_law_732 ?_
                  refine x_lcmp (z := (ilc (mJ M230 243 0) (Int64.ofNat 0))) (pc := 733) dL_law_733 rfl ?_
                  refine x_ifeq (tgt := 739) (pc := 734) dL_law_734 rfl (fun h235 => ?_) (fun h235 => ?_)
                  · replace hf := (if_pos h235).symm.trans hf
                    refine x_goto (tgt := 2062) (pc := 739) dL_law_739 rfl ?_
                    refine x_iincw (ls' := [some (vR 0), some (vR 150), some (vR 203), some (vR 243), some (vI (wr (v4 + 6))), some (vI v227), some (vI v231), none, none]) (pc := 2062) dL_law_2062 rfl (Nat.le_of_ble_eq_true rfl) rfl rfl ?_
                    refine x_goto (tgt := 23) (pc := 2065) dL_law_2065 rfl ?_
                    cases hf
                    exact x_fgt (axS' (axS' (axS' (axS' (axS' (axN' (axN' (axN' (axN' axD))))))))) (h1 _ rfl)
                  · replace hf := (if_neg h235).symm.trans hf
                    cases hf
                · replace hf := (if_neg h234).symm.trans hf
                  refine x_lconst (pc := 728) dL_law_728 ?_
                  refine x_goto (tgt := 733) (pc := 729) dL_law_729 rfl ?_
                  refine x_lcmp (z := (ilc (mJ M230 243 0) (Int64.ofNat 1))) (pc := 733) dL_law_733 rfl ?_
                  refine x_ifeq (tgt := 739) (pc := 734) dL_law_734 rfl (fun h236 => ?_) (fun h236 => ?_)
                  · replace hf := (if_pos h236).symm.trans hf
                    refine x_goto (tgt := 2062) (pc := 739) dL_law_739 rfl ?_
                    refine x_iincw (ls' := [some (vR 0), some (vR 150), some (vR 203), some (vR 243), some (vI (wr (v4 + 6))), some (vI v227), some (vI v231), none, none]) (pc := 2062) dL_law_2062 rfl (Nat.le_of_ble_eq_true rfl) rfl rfl ?_
                    refine x_goto (tgt := 23) (pc := 2065) dL_law_2065 rfl ?_
                    cases hf
                    exact x_fgt (axS' (axS' (axS' (axS' (axS' (axN' (axN' (axN' (axN' axD))))))))) (h1 _ rfl)
                  · replace hf := (if_neg h236).symm.trans hf
                    cases hf
            · replace hf := (if_neg h232).symm.trans hf
              cases hf
          · replace hf := (if_neg h228).symm.trans hf
            cases hf
        · replace hf := (if_neg h224).symm.trans hf
          cases hf
      replace hf := (if_neg h223).symm.trans hf
      by_cases h237 : (iand (X (Int.toNat v4)) 63) = 14
      · replace hf := (if_pos h237).symm.trans hf
        refine x_tabIn (tgt := 742) 14 (pc := 40) dL_law_40 h237 (by decide) (by decide) rfl rfl ?_
        refine x_aload_n (pc := 742) dL_law_742 rfl ?_
        obtain ⟨v240, M239, r238, hf⟩ := bd2_some hf
        refine x_cr (v := vI v240) (vs := [vR 150]) (rest := []) (k := 0) rfl (by omega) (ax_caV (pc := 743) dL_law_743 kX12_isOver rfl rfl WM_L_163 WI_X12_isOver WS_X12_isOver WN_X12 (ax_rcO (t := 10) (axEx hG rfl) rfl (by decide)) (Nat.le_of_ble_eq_true rfl)) kX12_isOver rfl (Z_X12_isOver r238) (T_X12_isOver (by omega) hG r238) ?_
        refine x_aload_n (pc := 746) dL_law_746 rfl ?_
        obtain ⟨v243, M242, r241, hf⟩ := bd2_some hf
        refine x_cr (v := vI v243) (vs := [vR 203]) (rest := [vI v240]) (k := 0) rfl (by omega) (ax_caV (pc := 747) dL_law_747 kX14_isOver rfl rfl WM_L_167 WI_X14_isOver WS_X14_isOver WN_X14 (ax_rcO (t := 12) (axEx hG rfl) rfl (by decide)) (Nat.le_of_ble_eq_true rfl)) kX14_isOver rfl (Z_X14_isOver r241) (T_X14_isOver (by omega) hG r241) ?_
        refine x_icmpeq (tgt := 2062) (pc := 750) dL_law_750 rfl (fun h244 => ?_) (fun h244 => ?_)
        · replace hf := (if_pos h244).symm.trans hf
          refine x_iincw (ls' := [some (vR 0), some (vR 150), some (vR 203), some (vR 243), some (vI (wr (v4 + 6))), none, none, none, none]) (pc := 2062) dL_law_2062 rfl (Nat.le_of_ble_eq_true rfl) rfl rfl ?_
          refine x_goto (tgt := 23) (pc := 2065) dL_law_2065 rfl ?_
          cases hf
          exact h1 _ rfl
        · replace hf := (if_neg h244).symm.trans hf
          cases hf
      replace hf := (if_neg h237).symm.trans hf
      by_cases h245 : (iand (X (Int.toNat v4)) 63) = 15
      · replace hf := (if_pos h245).symm.trans hf
        refine x_tabIn (tgt := 755) 15 (pc := 40) dL_law_40 h245 (by decide) (by decide) rfl rfl ?_
        refine x_aload_n (pc := 755) dL_law_755 rfl ?_
        refine x_aload_n (pc := 756) dL_law_756 rfl ?_
        obtain ⟨v248, M247, r246, hf⟩ := bd2_some hf
        refine x_cr (v := vI v248) (vs := [vR 150, vR 243]) (rest := []) (k := 1) rfl (by omega) (ax_caSH (pc := 757) dL_law_757 kL_playerInTurn (by decide) rfl WM_L_168 WT_L_playerInTurn WN_L (Nat.le_of_ble_eq_true rfl)) kL_playerInTurn rfl True.intro (T_L_playerInTurn (by omega) hG hX r246) ?_
        refine x_istore (ls' := [some (vR 0), some (vR 150), some (vR 203), some (vR 243), some (vI v4), some (vI v248), none, none, none]) (pc := 760) dL_law_760 (Nat.le_of_ble_eq_true rfl) rfl rfl ?_
        refine x_aload_n (pc := 762) dL_law_762 rfl ?_
        obtain ⟨v251, M250, r249, hf⟩ := bd2_some hf
        refine x_cr (v := vI v251) (vs := [vR 203]) (rest := []) (k := 0) rfl (by omega) (ax_caV (pc := 763) dL_law_763 kX14_playerInTurn rfl rfl WM_L_171 WI_X14_playerInTurn WS_X14_playerInTurn WN_X14 (ax_rcO (t := 12) (axEx hG rfl) rfl (by decide)) (Nat.le_of_ble_eq_true rfl)) kX14_playerInTurn rfl True.intro (T_X14_playerInTurn (by omega) hG r249) ?_
        refine x_istore (ls' := [some (vR 0), some (vR 150), some (vR 203), some (vR 243), some (vI v4), some (vI v248), some (vI v251), none, none]) (pc := 766) dL_law_766 (Nat.le_of_ble_eq_true rfl) rfl rfl ?_
        refine x_aload_n (pc := 768) dL_law_768 rfl ?_
        refine x_cr (v := vI (fX14_thrown M250)) (vs := [vR 203]) (rest := []) (k := 0) rfl (by omega) (ax_caV (pc := 769) dL_law_769 kX14_thrown rfl rfl WM_L_111 WI_X14_thrown WS_X14_thrown WN_X14 (ax_rcO (t := 12) (axEx hG rfl) rfl (by decide)) (Nat.le_of_ble_eq_true rfl)) kX14_thrown rfl True.intro (T_X14_thrown (by omega) hG rfl) ?_
        refine x_iload (pc := 772) dL_law_772 rfl ?_
        refine x_icmpeq (tgt := 779) (pc := 774) dL_law_774 rfl (fun h252 => ?_) (fun h252 => ?_)
        · replace hf := (if_pos h252).symm.trans hf
          refine x_iload (pc := 779) dL_law_779 rfl ?_
          refine x_ifne (tgt := 796) (pc := 781) dL_law_781 rfl (fun h253 => ?_) (fun h253 => ?_)
          · replace hf := (if_neg h253).symm.trans hf
            refine x_goto (tgt := 2062) (pc := 796) dL_law_796 rfl ?_
            refine x_iincw (ls' := [some (vR 0), some (vR 150), some (vR 203), some (vR 243), some (vI (wr (v4 + 6))), some (vI v248), some (vI v251), none, none]) (pc := 2062) dL_law_2062 rfl (Nat.le_of_ble_eq_true rfl) rfl rfl ?_
            refine x_goto (tgt := 23) (pc := 2065) dL_law_2065 rfl ?_
            cases hf
            exact x_fgt (axS' (axS' (axS' (axS' (axS' (axN' (axN' (axN' (axN' axD))))))))) (h1 _ rfl)
          · replace hf := (if_pos h253).symm.trans hf
            refine x_aload_n (pc := 784) dL_law_784 rfl ?_
            refine x_iconst (pc := 785) dL_law_785 ⟨by decide, by decide⟩ ?_
            refine x_lald (j := 0) (n := 1) (pc := 786) dL_law_786 (axEx hG rfl) rfl rfl (by decide) ?_
            refine x_iload (pc := 787) dL_law_787 rfl ?_
            refine x_i2l (pc := 789) dL_law_789 ?_
            refine x_lcmp (z := (ilc (mJ M250 243 0) (il v251))) (pc := 790) dL_law_790 rfl ?_
            refine x_ifeq (tgt := 796) (pc := 791) dL_law_791 rfl (fun h254 => ?_) (fun h254 => ?_)
            · replace hf := (if_pos h254).symm.trans hf
              refine x_goto (tgt := 2062) (pc := 796) dL_law_796 rfl ?_
              refine x_iincw (ls' := [some (vR 0), some (vR 150), some (vR 203), some (vR 243), some (vI (wr (v4 + 6))), some (vI v248), some (vI v251), none, none]) (pc := 2062) dL_law_2062 rfl (Nat.le_of_ble_eq_true rfl) rfl rfl ?_
              refine x_goto (tgt := 23) (pc := 2065) dL_law_2065 rfl ?_
              cases hf
              exact x_fgt (axS' (axS' (axS' (axS' (axS' (axN' (axN' (axN' (axN' axD))))))))) (h1 _ rfl)
            · replace hf := (if_neg h254).symm.trans hf
              cases hf
        · replace hf := (if_neg h252).symm.trans hf
          cases hf
      replace hf := (if_neg h245).symm.trans hf
      by_cases h255 : (iand (X (Int.toNat v4)) 63) = 16
      · replace hf := (if_pos h255).symm.trans hf
        refine x_tabIn (tgt := 799) 16 (pc := 40) dL_law_40 h255 (by decide) (by decide) rfl rfl ?_
        refine x_aload_n (pc := 799) dL_law_799 rfl ?_
        refine x_aload_n (pc := 800) dL_law_800 rfl ?_
        refine x_iload (pc := 801) dL_law_801 rfl ?_
        refine x_iconst (pc := 803) dL_law_803 ⟨by decide, by decide⟩ ?_
        refine x_iadd (z := (v4 + 1)) (pc := 804) dL_law_804 rfl (ax_i (by omega) (by omega)) ?_
        by_cases h256 : 0 ≤ (v4 + 1) ∧ (v4 + 1) < N
        · replace hf := (if_pos h256).symm.trans hf
          refine x_saldN hSX hSN hXi (pc := 805) dL_law_805 h256.1 h256.2 ?_
          refine x_aload_n (pc := 806) dL_law_806 rfl ?_
          refine x_iload (pc := 807) dL_law_807 rfl ?_
          refine x_iconst (pc := 809) dL_law_809 ⟨by decide, by decide⟩ ?_
          refine x_iaddw (pc := 810) dL_law_810 ?_
          by_cases h257 : 0 ≤ (wr (v4 + 2)) ∧ (wr (v4 + 2)) < N
          · replace hf := (if_pos h257).symm.trans hf
            refine x_saldN hSX hSN hXi (pc := 811) dL_law_811 h257.1 h257.2 ?_
            refine x_aload_n (pc := 812) dL_law_812 rfl ?_
            refine x_iload (pc := 813) dL_law_813 rfl ?_
            refine x_iconst (pc := 815) dL_law_815 ⟨by decide, by decide⟩ ?_
            refine x_iaddw (pc := 816) dL_law_816 ?_
            by_cases h258 : 0 ≤ (wr (v4 + 3)) ∧ (wr (v4 + 3)) < N
            · replace hf := (if_pos h258).symm.trans hf
              refine x_saldN hSX hSN hXi (pc := 817) dL_law_817 h258.1 h258.2 ?_
              refine x_aload_n (pc := 818) dL_law_818 rfl ?_
              obtain ⟨v261, M260, r259, hf⟩ := bd2_some hf
              refine x_cr (v := vI v261) (vs := [vR 150, vI (X (Int.toNat (v4 + 1))), vI (X (Int.toNat (wr (v4 + 2)))), vI (X (Int.toNat (wr (v4 + 3)))), vR 243]) (rest := []) (k := 1) rfl (by omega) (ax_caSH (pc := 819) dL_law_819 kL_stonesBeside (by decide) rfl WM_L_172 WT_L_stonesBeside WN_L (Nat.le_of_ble_eq_true rfl)) kL_stonesBeside rfl True.intro (T_L_stonesBeside (by omega) hG hX r259) ?_
              refine x_istore (ls' := [some (vR 0), some (vR 150), some (vR 203), some (vR 243), some (vI v4), some (vI v261), none, none, none]) (pc := 822) dL_law_822 (Nat.le_of_ble_eq_true rfl) rfl rfl ?_
              refine x_aload_n (pc := 824) dL_law_824 rfl ?_
              refine x_aload_n (pc := 825) dL_law_825 rfl ?_
              refine x_iload (pc := 826) dL_law_826 rfl ?_
              refine x_iconst (pc := 828) dL_law_828 ⟨by decide, by decide⟩ ?_
              refine x_iadd (z := (v4 + 1)) (pc := 829) dL_law_829 rfl (ax_i (by omega) (by omega)) ?_
              by_cases h262 : 0 ≤ (v4 + 1) ∧ (v4 + 1) < N
              · replace hf := (if_pos h262).symm.trans hf
                refine x_saldN hSX hSN hXi (pc := 830) dL_law_830 h262.1 h262.2 ?_
                refine x_aload_n (pc := 831) dL_law_831 rfl ?_
                refine x_iload (pc := 832) dL_law_832 rfl ?_
                refine x_iconst (pc := 834) dL_law_834 ⟨by decide, by decide⟩ ?_
                refine x_iaddw (pc := 835) dL_law_835 ?_
                by_cases h263 : 0 ≤ (wr (v4 + 2)) ∧ (wr (v4 + 2)) < N
                · replace hf := (if_pos h263).symm.trans hf
                  refine x_saldN hSX hSN hXi (pc := 836) dL_law_836 h263.1 h263.2 ?_
                  refine x_aload_n (pc := 837) dL_law_837 rfl ?_
                  refine x_iload (pc := 838) dL_law_838 rfl ?_
                  refine x_iconst (pc := 840) dL_law_840 ⟨by decide, by decide⟩ ?_
                  refine x_iaddw (pc := 841) dL_law_841 ?_
                  by_cases h264 : 0 ≤ (wr (v4 + 3)) ∧ (wr (v4 + 3)) < N
                  · replace hf := (if_pos h264).symm.trans hf
                    refine x_saldN hSX hSN hXi (pc := 842) dL_law_842 h264.1 h264.2 ?_
                    obtain ⟨v267, M266, r265, hf⟩ := bd2_some hf
                    refine x_cr (v := vI v267) (vs := [vR 203, vI (X (Int.toNat (v4 + 1))), vI (X (Int.toNat (wr (v4 + 2)))), vI (X (Int.toNat (wr (v4 + 3))))]) (rest := []) (k := 3) rfl (by omega) (ax_caV (pc := 843) dL_law_843 kX14_stonesBeside rfl rfl WM_L_175 WI_X14_stonesBeside WS_X14_stonesBeside WN_X14 (ax_rcO (t := 12) (axEx hG rfl) rfl (by decide)) (Nat.le_of_ble_eq_true rfl)) kX14_stonesBeside rfl True.intro (T_X14_stonesBeside (by omega) hG r265) ?_
                    refine x_istore (ls' := [some (vR 0), some (vR 150), some (vR 203), some (vR 243), some (vI v4), some (vI v261), some (vI v267), none, none]) (pc := 846) dL_law_846 (Nat.le_of_ble_eq_true rfl) rfl rfl ?_
                    refine x_aload_n (pc := 848) dL_law_848 rfl ?_
                    refine x_cr (v := vI (fX14_thrown M266)) (vs := [vR 203]) (rest := []) (k := 0) rfl (by omega) (ax_caV (pc := 849) dL_law_849 kX14_thrown rfl rfl WM_L_111 WI_X14_thrown WS_X14_thrown WN_X14 (ax_rcO (t := 12) (axEx hG rfl) rfl (by decide)) (Nat.le_of_ble_eq_true rfl)) kX14_thrown rfl True.intro (T_X14_thrown (by omega) hG rfl) ?_
                    refine x_iload (pc := 852) dL_law_852 rfl ?_
                    refine x_icmpeq (tgt := 859) (pc := 854) dL_law_854 rfl (fun h268 => ?_) (fun h268 => ?_)
                    · replace hf := (if_pos h268).symm.trans hf
                      refine x_iload (pc := 859) dL_law_859 rfl ?_
                      refine x_ifne (tgt := 876) (pc := 861) dL_law_861 rfl (fun h269 => ?_) (fun h269 => ?_)
                      · replace hf := (if_neg h269).symm.trans hf
                        refine x_goto (tgt := 2062) (pc := 876) dL_law_876 rfl ?_
                        refine x_iincw (ls' := [some (vR 0), some (vR 150), some (vR 203), some (vR 243), some (vI (wr (v4 + 6))), some (vI v261), some (vI v267), none, none]) (pc := 2062) dL_law_2062 rfl (Nat.le_of_ble_eq_true rfl) rfl rfl ?_
                        refine x_goto (tgt := 23) (pc := 2065) dL_law_2065 rfl ?_
                        cases hf
                        exact x_fgt (axS' (axS' (axS' (axS' (axS' (axN' (axN' (axN' (axN' axD))))))))) (h1 _ rfl)
                      · replace hf := (if_pos h269).symm.trans hf
                        refine x_aload_n (pc := 864) dL_law_864 rfl ?_
                        refine x_iconst (pc := 865) dL_law_865 ⟨by decide, by decide⟩ ?_
                        refine x_lald (j := 0) (n := 1) (pc := 866) dL_law_866 (axEx hG rfl) rfl rfl (by decide) ?_
                        refine x_iload (pc := 867) dL_law_867 rfl ?_
                        refine x_i2l (pc := 869) dL_law_869 ?_
                        refine x_lcmp (z := (ilc (mJ M266 243 0) (il v267))) (pc := 870) dL_law_870 rfl ?_
                        refine x_ifeq (tgt := 876) (pc := 871) dL_law_871 rfl (fun h270 => ?_) (fun h270 => ?_)
                        · replace hf := (if_pos h270).symm.trans hf
                          refine x_goto (tgt := 2062) (pc := 876) dL_law_876 rfl ?_
                          refine x_iincw (ls' := [some (vR 0), some (vR 150), some (vR 203), some (vR 243), some (vI (wr (v4 + 6))), some (vI v261), some (vI v267), none, none]) (pc := 2062) dL_law_2062 rfl (Nat.le_of_ble_eq_true rfl) rfl rfl ?_
                          refine x_goto (tgt := 23) (pc := 2065) dL_law_2065 rfl ?_
                          cases hf
                          exact x_fgt (axS' (axS' (axS' (axS' (axS' (axN' (axN' (axN' (axN' axD))))))))) (h1 _ rfl)
                        · replace hf := (if_neg h270).symm.trans hf
                          cases hf
                    · replace hf := (if_neg h268).symm.trans hf
                      cases hf
                  · replace hf := (if_neg h264).symm.trans hf
                    cases hf
                · replace hf := (if_neg h263).symm.trans hf
                  cases hf
              · replace hf := (if_neg h262).symm.trans hf
                cases hf
            · replace hf := (if_neg h258).symm.trans hf
              cases hf
          · replace hf := (if_neg h257).symm.trans hf
            cases hf
        · replace hf := (if_neg h256).symm.trans hf
          cases hf
      replace hf := (if_neg h255).symm.trans hf
      by_cases h271 : (iand (X (Int.toNat v4)) 63) = 17
      · replace hf := (if_pos h271).symm.trans hf
        refine x_tabIn (tgt := 879) 17 (pc := 40) dL_law_40 h271 (by decide) (by decide) rfl rfl ?_
        refine x_aload_n (pc := 879) dL_law_879 rfl ?_
        refine x_aload_n (pc := 880) dL_law_880 rfl ?_
        refine x_iload (pc := 881) dL_law_881 rfl ?_
        refine x_iconst (pc := 883) dL_law_883 ⟨by decide, by decide⟩ ?_
        refine x_iadd (z := (v4 + 1)) (pc := 884) dL_law_884 rfl (ax_i (by omega) (by omega)) ?_
        by_cases h272 : 0 ≤ (v4 + 1) ∧ (v4 + 1) < N
        · replace hf := (if_pos h272).symm.trans hf
          refine x_saldN hSX hSN hXi (pc := 885) dL_law_885 h272.1 h272.2 ?_
          refine x_aload_n (pc := 886) dL_law_886 rfl ?_
          refine x_iload (pc := 887) dL_law_887 rfl ?_
          refine x_iconst (pc := 889) dL_law_889 ⟨by decide, by decide⟩ ?_
          refine x_iaddw (pc := 890) dL_law_890 ?_
          by_cases h273 : 0 ≤ (wr (v4 + 2)) ∧ (wr (v4 + 2)) < N
          · replace hf := (if_pos h273).symm.trans hf
            refine x_saldN hSX hSN hXi (pc := 891) dL_law_891 h273.1 h273.2 ?_
            refine x_aload_n (pc := 892) dL_law_892 rfl ?_
            obtain ⟨v276, M275, r274, hf⟩ := bd2_some hf
            refine x_cr (v := vI v276) (vs := [vR 150, vI (X (Int.toNat (v4 + 1))), vI (X (Int.toNat (wr (v4 + 2)))), vR 243]) (rest := []) (k := 1) rfl (by omega) (ax_caSH (pc := 893) dL_law_893 kL_groupSize (by decide) rfl WM_L_176 WT_L_groupSize WN_L (Nat.le_of_ble_eq_true rfl)) kL_groupSize rfl True.intro (T_L_groupSize (by omega) hG hX r274) ?_
            refine x_istore (ls' := [some (vR 0), some (vR 150), some (vR 203), some (vR 243), some (vI v4), some (vI v276), none, none, none]) (pc := 896) dL_law_896 (Nat.le_of_ble_eq_true rfl) rfl rfl ?_
            refine x_aload_n (pc := 898) dL_law_898 rfl ?_
            refine x_aload_n (pc := 899) dL_law_899 rfl ?_
            refine x_iload (pc := 900) dL_law_900 rfl ?_
            refine x_iconst (pc := 902) dL_law_902 ⟨by decide, by decide⟩ ?_
            refine x_iadd (z := (v4 + 1)) (pc := 903) dL_law_903 rfl (ax_i (by omega) (by omega)) ?_
            by_cases h277 : 0 ≤ (v4 + 1) ∧ (v4 + 1) < N
            · replace hf := (if_pos h277).symm.trans hf
              refine x_saldN hSX hSN hXi (pc := 904) dL_law_904 h277.1 h277.2 ?_
              refine x_aload_n (pc := 905) dL_law_905 rfl ?_
              refine x_iload (pc := 906) dL_law_906 rfl ?_
              refine x_iconst (pc := 908) dL_law_908 ⟨by decide, by decide⟩ ?_
              refine x_iaddw (pc := 909) dL_law_909 ?_
              by_cases h278 : 0 ≤ (wr (v4 + 2)) ∧ (wr (v4 + 2)) < N
              · replace hf := (if_pos h278).symm.trans hf
                refine x_saldN hSX hSN hXi (pc := 910) dL_law_910 h278.1 h278.2 ?_
                obtain ⟨v281, M280, r279, hf⟩ := bd2_some hf
                refine x_cr (v := vI v281) (vs := [vR 203, vI (X (Int.toNat (v4 + 1))), vI (X (Int.toNat (wr (v4 + 2))))]) (rest := []) (k := 1) rfl (by omega) (ax_caV (pc := 911) dL_law_911 kX14_groupSize rfl rfl WM_L_178 WI_X14_groupSize WS_X14_groupSize WN_X14 (ax_rcO (t := 12) (axEx hG rfl) rfl (by decide)) (Nat.le_of_ble_eq_true rfl)) kX14_groupSize rfl True.intro (T_X14_groupSize (by omega) hG r279) ?_
                refine x_istore (ls' := [some (vR 0), some (vR 150), some (vR 203), some (vR 243), some (vI v4), some (vI v276), some (vI v281), none, none]) (pc := 914) dL_law_914 (Nat.le_of_ble_eq_true rfl) rfl rfl ?_
                refine x_aload_n (pc := 916) dL_law_916 rfl ?_
                refine x_cr (v := vI (fX14_thrown M280)) (vs := [vR 203]) (rest := []) (k := 0) rfl (by omega) (ax_caV (pc := 917) dL_law_917 kX14_thrown rfl rfl WM_L_111 WI_X14_thrown WS_X14_thrown WN_X14 (ax_rcO (t := 12) (axEx hG rfl) rfl (by decide)) (Nat.le_of_ble_eq_true rfl)) kX14_thrown rfl True.intro (T_X14_thrown (by omega) hG rfl) ?_
                refine x_iload (pc := 920) dL_law_920 rfl ?_
                refine x_icmpeq (tgt := 927) (pc := 922) dL_law_922 rfl (fun h282 => ?_) (fun h282 => ?_)
                · replace hf := (if_pos h282).symm.trans hf
                  refine x_iload (pc := 927) dL_law_927 rfl ?_
                  refine x_ifne (tgt := 944) (pc := 929) dL_law_929 rfl (fun h283 => ?_) (fun h283 => ?_)
                  · replace hf := (if_neg h283).symm.trans hf
                    refine x_goto (tgt := 2062) (pc := 944) dL_law_944 rfl ?_
                    refine x_iincw (ls' := [some (vR 0), some (vR 150), some (vR 203), some (vR 243), some (vI (wr (v4 + 6))), some (vI v276), some (vI v281), none, none]) (pc := 2062) dL_law_2062 rfl (Nat.le_of_ble_eq_true rfl) rfl rfl ?_
                    refine x_goto (tgt := 23) (pc := 2065) dL_law_2065 rfl ?_
                    cases hf
                    exact x_fgt (axS' (axS' (axS' (axS' (axS' (axN' (axN' (axN' (axN' axD))))))))) (h1 _ rfl)
                  · replace hf := (if_pos h283).symm.trans hf
                    refine x_aload_n (pc := 932) dL_law_932 rfl ?_
                    refine x_iconst (pc := 933) dL_law_933 ⟨by decide, by decide⟩ ?_
                    refine x_lald (j := 0) (n := 1) (pc := 934) dL_law_934 (axEx hG rfl) rfl rfl (by decide) ?_
                    refine x_iload (pc := 935) dL_law_935 rfl ?_
                    refine x_i2l (pc := 937) dL_law_937 ?_
                    refine x_lcmp (z := (ilc (mJ M280 243 0) (il v281))) (pc := 938) dL_law_938 rfl ?_
                    refine x_ifeq (tgt := 944) (pc := 939) dL_law_939 rfl (fun h284 => ?_) (fun h284 => ?_)
                    · replace hf := (if_pos h284).symm.trans hf
                      refine x_goto (tgt := 2062) (pc := 944) dL_law_944 rfl ?_
                      refine x_iincw (ls' := [some (vR 0), some (vR 150), some (vR 203), some (vR 243), some (vI (wr (v4 + 6))), some (vI v276), some (vI v281), none, none]) (pc := 2062) dL_law_2062 rfl (Nat.le_of_ble_eq_true rfl) rfl rfl ?_
                      refine x_goto (tgt := 23) (pc := 2065) dL_law_2065 rfl ?_
                      cases hf
                      exact x_fgt (axS' (axS' (axS' (axS' (axS' (axN' (axN' (axN' (axN' axD))))))))) (h1 _ rfl)
                    · replace hf := (if_neg h284).symm.trans hf
                      cases hf
                · replace hf := (if_neg h282).symm.trans hf
                  cases hf
              · replace hf := (if_neg h278).symm.trans hf
                cases hf
            · replace hf := (if_neg h277).symm.trans hf
              cases hf
          · replace hf := (if_neg h273).symm.trans hf
            cases hf
        · replace hf := (if_neg h272).symm.trans hf
          cases hf
      replace hf := (if_neg h271).symm.trans hf
      by_cases h285 : (iand (X (Int.toNat v4)) 63) = 18
      · replace hf := (if_pos h285).symm.trans hf
        refine x_tabIn (tgt := 947) 18 (pc := 40) dL_law_40 h285 (by decide) (by decide) rfl rfl ?_
        refine x_aload_n (pc := 947) dL_law_947 rfl ?_
        refine x_aload_n (pc := 948) dL_law_948 rfl ?_
        refine x_iload (pc := 949) dL_law_949 rfl ?_
        refine x_iconst (pc := 951) dL_law_951 ⟨by decide, by decide⟩ ?_
        refine x_iadd (z := (v4 + 1)) (pc := 952) dL_law_952 rfl (ax_i (by omega) (by omega)) ?_
        by_cases h286 : 0 ≤ (v4 + 1) ∧ (v4 + 1) < N
        · replace hf := (if_pos h286).symm.trans hf
          refine x_saldN hSX hSN hXi (pc := 953) dL_law_953 h286.1 h286.2 ?_
          refine x_aload_n (pc := 954) dL_law_954 rfl ?_
          refine x_iload (pc := 955) dL_law_955 rfl ?_
          refine x_iconst (pc := 957) dL_law_957 ⟨by decide, by decide⟩ ?_
          refine x_iaddw (pc := 958) dL_law_958 ?_
          by_cases h287 : 0 ≤ (wr (v4 + 2)) ∧ (wr (v4 + 2)) < N
          · replace hf := (if_pos h287).symm.trans hf
            refine x_saldN hSX hSN hXi (pc := 959) dL_law_959 h287.1 h287.2 ?_
            refine x_aload_n (pc := 960) dL_law_960 rfl ?_
            obtain ⟨v290, M289, r288, hf⟩ := bd2_some hf
            refine x_cr (v := vI v290) (vs := [vR 150, vI (X (Int.toNat (v4 + 1))), vI (X (Int.toNat (wr (v4 + 2)))), vR 243]) (rest := []) (k := 1) rfl (by omega) (ax_caSH (pc := 961) dL_law_961 kL_shoresOf (by decide) rfl WM_L_179 WT_L_shoresOf WN_L (Nat.le_of_ble_eq_true rfl)) kL_shoresOf rfl True.intro (T_L_shoresOf (by omega) hG hX r288) ?_
            refine x_istore (ls' := [some (vR 0), some (vR 150), some (vR 203), some (vR 243), some (vI v4), some (vI v290), none, none, none]) (pc := 964) dL_law_964 (Nat.le_of_ble_eq_true rfl) rfl rfl ?_
            refine x_aload_n (pc := 966) dL_law_966 rfl ?_
            refine x_aload_n (pc := 967) dL_law_967 rfl ?_
            refine x_iload (pc := 968) dL_law_968 rfl ?_
            refine x_iconst (pc := 970) dL_law_970 ⟨by decide, by decide⟩ ?_
            refine x_iadd (z := (v4 + 1)) (pc := 971) dL_law_971 rfl (ax_i (by omega) (by omega)) ?_
            by_cases h291 : 0 ≤ (v4 + 1) ∧ (v4 + 1) < N
            · replace hf := (if_pos h291).symm.trans hf
              refine x_saldN hSX hSN hXi (pc := 972) dL_law_972 h291.1 h291.2 ?_
              refine x_aload_n (pc := 973) dL_law_973 rfl ?_
              refine x_iload (pc := 974) dL_law_974 rfl ?_
              refine x_iconst (pc := 976) dL_law_976 ⟨by decide, by decide⟩ ?_
              refine x_iaddw (pc := 977) dL_law_977 ?_
              by_cases h292 : 0 ≤ (wr (v4 + 2)) ∧ (wr (v4 + 2)) < N
              · replace hf := (if_pos h292).symm.trans hf
                refine x_saldN hSX hSN hXi (pc := 978) dL_law_978 h292.1 h292.2 ?_
                obtain ⟨v295, M294, r293, hf⟩ := bd2_some hf
                refine x_cr (v := vI v295) (vs := [vR 203, vI (X (Int.toNat (v4 + 1))), vI (X (Int.toNat (wr (v4 + 2))))]) (rest := []) (k := 2) rfl (by omega) (ax_caV (pc := 979) dL_law_979 kX14_shoresOf rfl rfl WM_L_181 WI_X14_shoresOf WS_X14_shoresOf WN_X14 (ax_rcO (t := 12) (axEx hG rfl) rfl (by decide)) (Nat.le_of_ble_eq_true rfl)) kX14_shoresOf rfl True.intro (T_X14_shoresOf (by omega) hG r293) ?_
                refine x_istore (ls' := [some (vR 0), some (vR 150), some (vR 203), some (vR 243), some (vI v4), some (vI v290), some (vI v295), none, none]) (pc := 982) dL_law_982 (Nat.le_of_ble_eq_true rfl) rfl rfl ?_
                refine x_aload_n (pc := 984) dL_law_984 rfl ?_
                refine x_cr (v := vI (fX14_thrown M294)) (vs := [vR 203]) (rest := []) (k := 0) rfl (by omega) (ax_caV (pc := 985) dL_law_985 kX14_thrown rfl rfl WM_L_111 WI_X14_thrown WS_X14_thrown WN_X14 (ax_rcO (t := 12) (axEx hG rfl) rfl (by decide)) (Nat.le_of_ble_eq_true rfl)) kX14_thrown rfl True.intro (T_X14_thrown (by omega) hG rfl) ?_
                refine x_iload (pc := 988) dL_law_988 rfl ?_
                refine x_icmpeq (tgt := 995) (pc := 990) dL_law_990 rfl (fun h296 => ?_) (fun h296 => ?_)
                · replace hf := (if_pos h296).symm.trans hf
                  refine x_iload (pc := 995) dL_law_995 rfl ?_
                  refine x_ifne (tgt := 1012) (pc := 997) dL_law_997 rfl (fun h297 => ?_) (fun h297 => ?_)
                  · replace hf := (if_neg h297).symm.trans hf
                    refine x_goto (tgt := 2062) (pc := 1012) dL_law_1012 rfl ?_
                    refine x_iincw (ls' := [some (vR 0), some (vR 150), some (vR 203), some (vR 243), some (vI (wr (v4 + 6))), some (vI v290), some (vI v295), none, none]) (pc := 2062) dL_law_2062 rfl (Nat.le_of_ble_eq_true rfl) rfl rfl ?_
                    refine x_goto (tgt := 23) (pc := 2065) dL_law_2065 rfl ?_
                    cases hf
                    exact x_fgt (axS' (axS' (axS' (axS' (axS' (axN' (axN' (axN' (axN' axD))))))))) (h1 _ rfl)
                  · replace hf := (if_pos h297).symm.trans hf
                    refine x_aload_n (pc := 1000) dL_law_1000 rfl ?_
                    refine x_iconst (pc := 1001) dL_law_1001 ⟨by decide, by decide⟩ ?_
                    refine x_lald (j := 0) (n := 1) (pc := 1002) dL_law_1002 (axEx hG rfl) rfl rfl (by decide) ?_
                    refine x_iload (pc := 1003) dL_law_1003 rfl ?_
                    refine x_i2l (pc := 1005) dL_law_1005 ?_
                    refine x_lcmp (z := (ilc (mJ M294 243 0) (il v295))) (pc := 1006) dL_law_1006 rfl ?_
                    refine x_ifeq (tgt := 1012) (pc := 1007) dL_law_1007 rfl (fun h298 => ?_) (fun h298 => ?_)
                    · replace hf := (if_pos h298).symm.trans hf
                      refine x_goto (tgt := 2062) (pc := 1012) dL_law_1012 rfl ?_
                      refine x_iincw (ls' := [some (vR 0), some (vR 150), some (vR 203), some (vR 243), some (vI (wr (v4 + 6))), some (vI v290), some (vI v295), none, none]) (pc := 2062) dL_law_2062 rfl (Nat.le_of_ble_eq_true rfl) rfl rfl ?_
                      refine x_goto (tgt := 23) (pc := 2065) dL_law_2065 rfl ?_
                      cases hf
                      exact x_fgt (axS' (axS' (axS' (axS' (axS' (axN' (axN' (axN' (axN' axD))))))))) (h1 _ rfl)
                    · replace hf := (if_neg h298).symm.trans hf
                      cases hf
                · replace hf := (if_neg h296).symm.trans hf
                  cases hf
              · replace hf := (if_neg h292).symm.trans hf
                cases hf
            · replace hf := (if_neg h291).symm.trans hf
              cases hf
          · replace hf := (if_neg h287).symm.trans hf
            cases hf
        · replace hf := (if_neg h286).symm.trans hf
          cases hf
      replace hf := (if_neg h285).symm.trans hf
      by_cases h299 : (iand (X (Int.toNat v4)) 63) = 19
      · replace hf := (if_pos h299).symm.trans hf
        refine x_tabIn (tgt := 1015) 19 (pc := 40) dL_law_40 h299 (by decide) (by decide) rfl rfl ?_
        refine x_aload_n (pc := 1015) dL_law_1015 rfl ?_
        refine x_aload_n (pc := 1016) dL_law_1016 rfl ?_
        refine x_iload (pc := 1017) dL_law_1017 rfl ?_
        refine x_iconst (pc := 1019) dL_law_1019 ⟨by decide, by decide⟩ ?_
        refine x_iadd (z := (v4 + 1)) (pc := 1020) dL_law_1020 rfl (ax_i (by omega) (by omega)) ?_
        by_cases h300 : 0 ≤ (v4 + 1) ∧ (v4 + 1) < N
        · replace hf := (if_pos h300).symm.trans hf
          refine x_saldN hSX hSN hXi (pc := 1021) dL_law_1021 h300.1 h300.2 ?_
          refine x_aload_n (pc := 1022) dL_law_1022 rfl ?_
          obtain ⟨v303, M302, r301, hf⟩ := bd2_some hf
          refine x_cr (v := vI v303) (vs := [vR 150, vI (X (Int.toNat (v4 + 1))), vR 243]) (rest := []) (k := 1) rfl (by omega) (ax_caSH (pc := 1023) dL_law_1023 kL_groupsOf (by decide) rfl WM_L_182 WT_L_groupsOf WN_L (Nat.le_of_ble_eq_true rfl)) kL_groupsOf rfl True.intro (T_L_groupsOf (by omega) hG hX r301) ?_
          refine x_istore (ls' := [some (vR 0), some (vR 150), some (vR 203), some (vR 243), some (vI v4), some (vI v303), none, none, none]) (pc := 1026) dL_law_1026 (Nat.le_of_ble_eq_true rfl) rfl rfl ?_
          refine x_aload_n (pc := 1028) dL_law_1028 rfl ?_
          refine x_aload_n (pc := 1029) dL_law_1029 rfl ?_
          refine x_iload (pc := 1030) dL_law_1030 rfl ?_
          refine x_iconst (pc := 1032) dL_law_1032 ⟨by decide, by decide⟩ ?_
          refine x_iadd (z := (v4 + 1)) (pc := 1033) dL_law_1033 rfl (ax_i (by omega) (by omega)) ?_
          by_cases h304 : 0 ≤ (v4 + 1) ∧ (v4 + 1) < N
          · replace hf := (if_pos h304).symm.trans hf
            refine x_saldN hSX hSN hXi (pc := 1034) dL_law_1034 h304.1 h304.2 ?_
            obtain ⟨v307, M306, r305, hf⟩ := bd2_some hf
            refine x_cr (v := vI v307) (vs := [vR 203, vI (X (Int.toNat (v4 + 1)))]) (rest := []) (k := 0) rfl (by omega) (ax_caV (pc := 1035) dL_law_1035 kX14_groupsOf rfl rfl WM_L_184 WI_X14_groupsOf WS_X14_groupsOf WN_X14 (ax_rcO (t := 12) (axEx hG rfl) rfl (by decide)) (Nat.le_of_ble_eq_true rfl)) kX14_groupsOf rfl True.intro (T_X14_groupsOf (by omega) hG r305) ?_
            refine x_istore (ls' := [some (vR 0), some (vR 150), some (vR 203), some (vR 243), some (vI v4), some (vI v303), some (vI v307), none, none]) (pc := 1038) dL_law_1038 (Nat.le_of_ble_eq_true rfl) rfl rfl ?_
            refine x_aload_n (pc := 1040) dL_law_1040 rfl ?_
            refine x_cr (v := vI (fX14_thrown M306)) (vs := [vR 203]) (rest := []) (k := 0) rfl (by omega) (ax_caV (pc := 1041) dL_law_1041 kX14_thrown rfl rfl WM_L_111 WI_X14_thrown WS_X14_thrown WN_X14 (ax_rcO (t := 12) (axEx hG rfl) rfl (by decide)) (Nat.le_of_ble_eq_true rfl)) kX14_thrown rfl True.intro (T_X14_thrown (by omega) hG rfl) ?_
            refine x_iload (pc := 1044) dL_law_1044 rfl ?_
            refine x_icmpeq (tgt := 1051) (pc := 1046) dL_law_1046 rfl (fun h308 => ?_) (fun h308 => ?_)
            · replace hf := (if_pos h308).symm.trans hf
              refine x_iload (pc := 1051) dL_law_1051 rfl ?_
              refine x_ifne (tgt := 1068) (pc := 1053) dL_law_1053 rfl (fun h309 => ?_) (fun h309 => ?_)
              · replace hf := (if_neg h309).symm.trans hf
                refine x_goto (tgt := 2062) (pc := 1068) dL_law_1068 rfl ?_
                refine x_iincw (ls' := [some (vR 0), some (vR 150), some (vR 203), some (vR 243), some (vI (wr (v4 + 6))), some (vI v303), some (vI v307), none, none]) (pc := 2062) dL_law_2062 rfl (Nat.le_of_ble_eq_true rfl) rfl rfl ?_
                refine x_goto (tgt := 23) (pc := 2065) dL_law_2065 rfl ?_
                cases hf
                exact x_fgt (axS' (axS' (axS' (axS' (axS' (axN' (axN' (axN' (axN' axD))))))))) (h1 _ rfl)
              · replace hf := (if_pos h309).symm.trans hf
                refine x_aload_n (pc := 1056) dL_law_1056 rfl ?_
                refine x_iconst (pc := 1057) dL_law_1057 ⟨by decide, by decide⟩ ?_
                refine x_lald (j := 0) (n := 1) (pc := 1058) dL_law_1058 (axEx hG rfl) rfl rfl (by decide) ?_
                refine x_iload (pc := 1059) dL_law_1059 rfl ?_
                refine x_i2l (pc := 1061) dL_law_1061 ?_
                refine x_lcmp (z := (ilc (mJ M306 243 0) (il v307))) (pc := 1062) dL_law_1062 rfl ?_
                refine x_ifeq (tgt := 1068) (pc := 1063) dL_law_1063 rfl (fun h310 => ?_) (fun h310 => ?_)
                · replace hf := (if_pos h310).symm.trans hf
                  refine x_goto (tgt := 2062) (pc := 1068) dL_law_1068 rfl ?_
                  refine x_iincw (ls' := [some (vR 0), some (vR 150), some (vR 203), some (vR 243), some (vI (wr (v4 + 6))), some (vI v303), some (vI v307), none, none]) (pc := 2062) dL_law_2062 rfl (Nat.le_of_ble_eq_true rfl) rfl rfl ?_
                  refine x_goto (tgt := 23) (pc := 2065) dL_law_2065 rfl ?_
                  cases hf
                  exact x_fgt (axS' (axS' (axS' (axS' (axS' (axN' (axN' (axN' (axN' axD))))))))) (h1 _ rfl)
                · replace hf := (if_neg h310).symm.trans hf
                  cases hf
            · replace hf := (if_neg h308).symm.trans hf
              cases hf
          · replace hf := (if_neg h304).symm.trans hf
            cases hf
        · replace hf := (if_neg h300).symm.trans hf
          cases hf
      replace hf := (if_neg h299).symm.trans hf
      by_cases h311 : (iand (X (Int.toNat v4)) 63) = 20
      · replace hf := (if_pos h311).symm.trans hf
        refine x_tabIn (tgt := 1071) 20 (pc := 40) dL_law_40 h311 (by decide) (by decide) rfl rfl ?_
        refine x_aload_n (pc := 1071) dL_law_1071 rfl ?_
        refine x_aload_n (pc := 1072) dL_law_1072 rfl ?_
        refine x_iload (pc := 1073) dL_law_1073 rfl ?_
        refine x_iconst (pc := 1075) dL_law_1075 ⟨by decide, by decide⟩ ?_
        refine x_iadd (z := (v4 + 1)) (pc := 1076) dL_law_1076 rfl (ax_i (by omega) (by omega)) ?_
        by_cases h312 : 0 ≤ (v4 + 1) ∧ (v4 + 1) < N
        · replace hf := (if_pos h312).symm.trans hf
          refine x_saldN hSX hSN hXi (pc := 1077) dL_law_1077 h312.1 h312.2 ?_
          refine x_aload_n (pc := 1078) dL_law_1078 rfl ?_
          obtain ⟨v315, M314, r313, hf⟩ := bd2_some hf
          refine x_cr (v := vI v315) (vs := [vR 150, vI (X (Int.toNat (v4 + 1))), vR 243]) (rest := []) (k := 1) rfl (by omega) (ax_caSH (pc := 1079) dL_law_1079 kL_greatestGroup (by decide) rfl WM_L_185 WT_L_greatestGroup WN_L (Nat.le_of_ble_eq_true rfl)) kL_greatestGroup rfl True.intro (T_L_greatestGroup (by omega) hG hX r313) ?_
          refine x_istore (ls' := [some (vR 0), some (vR 150), some (vR 203), some (vR 243), some (vI v4), some (vI v315), none, none, none]) (pc := 1082) dL_law_1082 (Nat.le_of_ble_eq_true rfl) rfl rfl ?_
          refine x_aload_n (pc := 1084) dL_law_1084 rfl ?_
          refine x_aload_n (pc := 1085) dL_law_1085 rfl ?_
          refine x_iload (pc := 1086) dL_law_1086 rfl ?_
          refine x_iconst (pc := 1088) dL_law_1088 ⟨by decide, by decide⟩ ?_
          refine x_iadd (z := (v4 + 1)) (pc := 1089) dL_law_1089 rfl (ax_i (by omega) (by omega)) ?_
          by_cases h316 : 0 ≤ (v4 + 1) ∧ (v4 + 1) < N
          · replace hf := (if_pos h316).symm.trans hf
            refine x_saldN hSX hSN hXi (pc := 1090) dL_law_1090 h316.1 h316.2 ?_
            obtain ⟨v319, M318, r317, hf⟩ := bd2_some hf
            refine x_cr (v := vI v319) (vs := [vR 203, vI (X (Int.toNat (v4 + 1)))]) (rest := []) (k := 0) rfl (by omega) (ax_caV (pc := 1091) dL_law_1091 kX14_greatestGroup rfl rfl WM_L_187 WI_X14_greatestGroup WS_X14_greatestGroup WN_X14 (ax_rcO (t := 12) (axEx hG rfl) rfl (by decide)) (Nat.le_of_ble_eq_true rfl)) kX14_greatestGroup rfl True.intro (T_X14_greatestGroup (by omega) hG r317) ?_
            refine x_istore (ls' := [some (vR 0), some (vR 150), some (vR 203), some (vR 243), some (vI v4), some (vI v315), some (vI v319), none, none]) (pc := 1094) dL_law_1094 (Nat.le_of_ble_eq_true rfl) rfl rfl ?_
            refine x_aload_n (pc := 1096) dL_law_1096 rfl ?_
            refine x_cr (v := vI (fX14_thrown M318)) (vs := [vR 203]) (rest := []) (k := 0) rfl (by omega) (ax_caV (pc := 1097) dL_law_1097 kX14_thrown rfl rfl WM_L_111 WI_X14_thrown WS_X14_thrown WN_X14 (ax_rcO (t := 12) (axEx hG rfl) rfl (by decide)) (Nat.le_of_ble_eq_true rfl)) kX14_thrown rfl True.intro (T_X14_thrown (by omega) hG rfl) ?_
            refine x_iload (pc := 1100) dL_law_1100 rfl ?_
            refine x_icmpeq (tgt := 1107) (pc := 1102) dL_law_1102 rfl (fun h320 => ?_) (fun h320 => ?_)
            · replace hf := (if_pos h320).symm.trans hf
              refine x_iload (pc := 1107) dL_law_1107 rfl ?_
              refine x_ifne (tgt := 1124) (pc := 1109) dL_law_1109 rfl (fun h321 => ?_) (fun h321 => ?_)
              · replace hf := (if_neg h321).symm.trans hf
                refine x_goto (tgt := 2062) (pc := 1124) dL_law_1124 rfl ?_
                refine x_iincw (ls' := [some (vR 0), some (vR 150), some (vR 203), some (vR 243), some (vI (wr (v4 + 6))), some (vI v315), some (vI v319), none, none]) (pc := 2062) dL_law_2062 rfl (Nat.le_of_ble_eq_true rfl) rfl rfl ?_
                refine x_goto (tgt := 23) (pc := 2065) dL_law_2065 rfl ?_
                cases hf
                exact x_fgt (axS' (axS' (axS' (axS' (axS' (axN' (axN' (axN' (axN' axD))))))))) (h1 _ rfl)
              · replace hf := (if_pos h321).symm.trans hf
                refine x_aload_n (pc := 1112) dL_law_1112 rfl ?_
                refine x_iconst (pc := 1113) dL_law_1113 ⟨by decide, by decide⟩ ?_
                refine x_lald (j := 0) (n := 1) (pc := 1114) dL_law_1114 (axEx hG rfl) rfl rfl (by decide) ?_
                refine x_iload (pc := 1115) dL_law_1115 rfl ?_
                refine x_i2l (pc := 1117) dL_law_1117 ?_
                refine x_lcmp (z := (ilc (mJ M318 243 0) (il v319))) (pc := 1118) dL_law_1118 rfl ?_
                refine x_ifeq (tgt := 1124) (pc := 1119) dL_law_1119 rfl (fun h322 => ?_) (fun h322 => ?_)
                · replace hf := (if_pos h322).symm.trans hf
                  refine x_goto (tgt := 2062) (pc := 1124) dL_law_1124 rfl ?_
                  refine x_iincw (ls' := [some (vR 0), some (vR 150), some (vR 203), some (vR 243), some (vI (wr (v4 + 6))), some (vI v315), some (vI v319), none, none]) (pc := 2062) dL_law_2062 rfl (Nat.le_of_ble_eq_true rfl) rfl rfl ?_
                  refine x_goto (tgt := 23) (pc := 2065) dL_law_2065 rfl ?_
                  cases hf
                  exact x_fgt (axS' (axS' (axS' (axS' (axS' (axN' (axN' (axN' (axN' axD))))))))) (h1 _ rfl)
                · replace hf := (if_neg h322).symm.trans hf
                  cases hf
            · replace hf := (if_neg h320).symm.trans hf
              cases hf
          · replace hf := (if_neg h316).symm.trans hf
            cases hf
        · replace hf := (if_neg h312).symm.trans hf
          cases hf
      replace hf := (if_neg h311).symm.trans hf
      by_cases h323 : (iand (X (Int.toNat v4)) 63) = 21
      · replace hf := (if_pos h323).symm.trans hf
        refine x_tabIn (tgt := 1127) 21 (pc := 40) dL_law_40 h323 (by decide) (by decide) rfl rfl ?_
        refine x_aload_n (pc := 1127) dL_law_1127 rfl ?_
        refine x_aload_n (pc := 1128) dL_law_1128 rfl ?_
        refine x_iload (pc := 1129) dL_law_1129 rfl ?_
        refine x_iconst (pc := 1131) dL_law_1131 ⟨by decide, by decide⟩ ?_
        refine x_iadd (z := (v4 + 1)) (pc := 1132) dL_law_1132 rfl (ax_i (by omega) (by omega)) ?_
        by_cases h324 : 0 ≤ (v4 + 1) ∧ (v4 + 1) < N
        · replace hf := (if_pos h324).symm.trans hf
          refine x_saldN hSX hSN hXi (pc := 1133) dL_law_1133 h324.1 h324.2 ?_
          refine x_aload_n (pc := 1134) dL_law_1134 rfl ?_
          refine x_iload (pc := 1135) dL_law_1135 rfl ?_
          refine x_iconst (pc := 1137) dL_law_1137 ⟨by decide, by decide⟩ ?_
          refine x_iaddw (pc := 1138) dL_law_1138 ?_
          by_cases h325 : 0 ≤ (wr (v4 + 2)) ∧ (wr (v4 + 2)) < N
          · replace hf := (if_pos h325).symm.trans hf
            refine x_saldN hSX hSN hXi (pc := 1139) dL_law_1139 h325.1 h325.2 ?_
            refine x_aload_n (pc := 1140) dL_law_1140 rfl ?_
            obtain ⟨v328, M327, r326, hf⟩ := bd2_some hf
            refine x_cr (v := vI v328) (vs := [vR 150, vI (X (Int.toNat (v4 + 1))), vI (X (Int.toNat (wr (v4 + 2)))), vR 243]) (rest := []) (k := 1) rfl (by omega) (ax_caSH (pc := 1141) dL_law_1141 kL_isBridge (by decide) rfl WM_L_188 WT_L_isBridge WN_L (Nat.le_of_ble_eq_true rfl)) kL_isBridge rfl True.intro (T_L_isBridge (by omega) hG hX r326) ?_
            refine x_istore (ls' := [some (vR 0), some (vR 150), some (vR 203), some (vR 243), some (vI v4), some (vI v328), none, none, none]) (pc := 1144) dL_law_1144 (Nat.le_of_ble_eq_true rfl) rfl rfl ?_
            refine x_aload_n (pc := 1146) dL_law_1146 rfl ?_
            refine x_aload_n (pc := 1147) dL_law_1147 rfl ?_
            refine x_iload (pc := 1148) dL_law_1148 rfl ?_
            refine x_iconst (pc := 1150) dL_law_1150 ⟨by decide, by decide⟩ ?_
            refine x_iadd (z := (v4 + 1)) (pc := 1151) dL_law_1151 rfl (ax_i (by omega) (by omega)) ?_
            by_cases h329 : 0 ≤ (v4 + 1) ∧ (v4 + 1) < N
            · replace hf := (if_pos h329).symm.trans hf
              refine x_saldN hSX hSN hXi (pc := 1152) dL_law_1152 h329.1 h329.2 ?_
              refine x_aload_n (pc := 1153) dL_law_1153 rfl ?_
              refine x_iload (pc := 1154) dL_law_1154 rfl ?_
              refine x_iconst (pc := 1156) dL_law_1156 ⟨by decide, by decide⟩ ?_
              refine x_iaddw (pc := 1157) dL_law_1157 ?_
              by_cases h330 : 0 ≤ (wr (v4 + 2)) ∧ (wr (v4 + 2)) < N
              · replace hf := (if_pos h330).symm.trans hf
                refine x_saldN hSX hSN hXi (pc := 1158) dL_law_1158 h330.1 h330.2 ?_
                obtain ⟨v333, M332, r331, hf⟩ := bd2_some hf
                refine x_cr (v := vI v333) (vs := [vR 203, vI (X (Int.toNat (v4 + 1))), vI (X (Int.toNat (wr (v4 + 2))))]) (rest := []) (k := 0) rfl (by omega) (ax_caV (pc := 1159) dL_law_1159 kX14_isBridge rfl rfl WM_L_190 WI_X14_isBridge WS_X14_isBridge WN_X14 (ax_rcO (t := 12) (axEx hG rfl) rfl (by decide)) (Nat.le_of_ble_eq_true rfl)) kX14_isBridge rfl (Z_X14_isBridge r331) (T_X14_isBridge (by omega) hG r331) ?_
                refine x_istore (ls' := [some (vR 0), some (vR 150), some (vR 203), some (vR 243), some (vI v4), some (vI v328), some (vI v333), none, none]) (pc := 1162) dL_law_1162 (Nat.le_of_ble_eq_true rfl) rfl rfl ?_
                refine x_aload_n (pc := 1164) dL_law_1164 rfl ?_
                refine x_cr (v := vI (fX14_thrown M332)) (vs := [vR 203]) (rest := []) (k := 0) rfl (by omega) (ax_caV (pc := 1165) dL_law_1165 kX14_thrown rfl rfl WM_L_111 WI_X14_thrown WS_X14_thrown WN_X14 (ax_rcO (t := 12) (axEx hG rfl) rfl (by decide)) (Nat.le_of_ble_eq_true rfl)) kX14_thrown rfl True.intro (T_X14_thrown (by omega) hG rfl) ?_
                refine x_iload (pc := 1168) dL_law_1168 rfl ?_
                refine x_icmpeq (tgt := 1175) (pc := 1170) dL_law_1170 rfl (fun h334 => ?_) (fun h334 => ?_)
                · replace hf := (if_pos h334).symm.trans hf
                  refine x_iload (pc := 1175) dL_law_1175 rfl ?_
                  refine x_ifne (tgt := 1199) (pc := 1177) dL_law_1177 rfl (fun h335 => ?_) (fun h335 => ?_)
                  · replace hf := (if_neg h335).symm.trans hf
                    refine x_goto (tgt := 2062) (pc := 1199) dL_law_1199 rfl ?_
                    refine x_iincw (ls' := [some (vR 0), some (vR 150), some (vR 203), some (vR 243), some (vI (wr (v4 + 6))), some (vI v328), some (vI v333), none, none]) (pc := 2062) dL_law_2062 rfl (Nat.le_of_ble_eq_true rfl) rfl rfl ?_
                    refine x_goto (tgt := 23) (pc := 2065) dL_law_2065 rfl ?_
                    cases hf
                    exact x_fgt (axS' (axS' (axS' (axS' (axS' (axN' (axN' (axN' (axN' axD))))))))) (h1 _ rfl)
                  · replace hf := (if_pos h335).symm.trans hf
                    refine x_aload_n (pc := 1180) dL_law_1180 rfl ?_
                    refine x_iconst (pc := 1181) dL_law_1181 ⟨by decide, by decide⟩ ?_
                    refine x_lald (j := 0) (n := 1) (pc := 1182) dL_law_1182 (axEx hG rfl) rfl rfl (by decide) ?_
                    refine x_iload (pc := 1183) dL_law_1183 rfl ?_
                    refine x_ifeq (tgt := 1192) (pc := 1185) dL_law_1185 rfl (fun h336 => ?_) (fun h336 => ?_)
                    · replace hf := (if_pos h336).symm.trans hf
                      refine x_lconst (pc := 1192) dL_law_1192 ?_
                      refine x_lcmp (z := (ilc (mJ M332 243 0) (Int64.ofNat 0))) (pc := 1193) dL_law_1193 rfl ?_
                      refine x_ifeq (tgt := 1199) (pc := 1194) dL_law_1194 rfl (fun h337 => ?_) (fun h337 => ?_)
                      · replace hf := (if_pos h337).symm.trans hf
                        refine x_goto (tgt := 2062) (pc := 1199) dL_law_1199 rfl ?_
                        refine x_iincw (ls' := [some (vR 0), some (vR 150), some (vR 203), some (vR 243), some (vI (wr (v4 + 6))), some (vI v328), some (vI v333), none, none]) (pc := 2062) dL_law_2062 rfl (Nat.le_of_ble_eq_true rfl) rfl rfl ?_
                        refine x_goto (tgt := 23) (pc := 2065) dL_law_2065 rfl ?_
                        cases hf
                        exact x_fgt (axS' (axS' (axS' (axS' (axS' (axN' (axN' (axN' (axN' axD))))))))) (h1 _ rfl)
                      · replace hf := (if_neg h337).symm.trans hf
                        cases hf
                    · replace hf := (if_neg h336).symm.trans hf
                      refine x_lconst (pc := 1188) dL_law_1188 ?_
                      refine x_goto (tgt := 1193) (pc := 1189) dL_law_1189 rfl ?_
                      refine x_lcmp (z := (ilc (mJ M332 243 0) (Int64.ofNat 1))) (pc := 1193) dL_law_1193 rfl ?_
                      refine x_ifeq (tgt := 1199) (pc := 1194) dL_law_1194 rfl (fun h338 => ?_) (fun h338 => ?_)
                      · replace hf := (if_pos h338).symm.trans hf
                        refine x_goto (tgt := 2062) (pc := 1199) dL_law_1199 rfl ?_
                        refine x_iincw (ls' := [some (vR 0), some (vR 150), some (vR 203), some (vR 243), some (vI (wr (v4 + 6))), some (vI v328), some (vI v333), none, none]) (pc := 2062) dL_law_2062 rfl (Nat.le_of_ble_eq_true rfl) rfl rfl ?_
                        refine x_goto (tgt := 23) (pc := 2065) dL_law_2065 rfl ?_
                        cases hf
                        exact x_fgt (axS' (axS' (axS' (axS' (axS' (axN' (axN' (axN' (axN' axD))))))))) (h1 _ rfl)
                      · replace hf := (if_neg h338).symm.trans hf
                        cases hf
                · replace hf := (if_neg h334).symm.trans hf
                  cases hf
              · replace hf := (if_neg h330).symm.trans hf
                cases hf
            · replace hf := (if_neg h329).symm.trans hf
              cases hf
          · replace hf := (if_neg h325).symm.trans hf
            cases hf
        · replace hf := (if_neg h324).symm.trans hf
          cases hf
      replace hf := (if_neg h323).symm.trans hf
      by_cases h339 : (iand (X (Int.toNat v4)) 63) = 22
      · replace hf := (if_pos h339).symm.trans hf
        refine x_tabIn (tgt := 1202) 22 (pc := 40) dL_law_40 h339 (by decide) (by decide) rfl rfl ?_
        refine x_aload_n (pc := 1202) dL_law_1202 rfl ?_
        refine x_aload_n (pc := 1203) dL_law_1203 rfl ?_
        refine x_iload (pc := 1204) dL_law_1204 rfl ?_
        refine x_iconst (pc := 1206) dL_law_1206 ⟨by decide, by decide⟩ ?_
        refine x_iadd (z := (v4 + 1)) (pc := 1207) dL_law_1207 rfl (ax_i (by omega) (by omega)) ?_
        by_cases h340 : 0 ≤ (v4 + 1) ∧ (v4 + 1) < N
        · replace hf := (if_pos h340).symm.trans hf
          refine x_saldN hSX hSN hXi (pc := 1208) dL_law_1208 h340.1 h340.2 ?_
          refine x_aload_n (pc := 1209) dL_law_1209 rfl ?_
          obtain ⟨v343, M342, r341, hf⟩ := bd2_some hf
          refine x_cr (v := vI v343) (vs := [vR 150, vI (X (Int.toNat (v4 + 1))), vR 243]) (rest := []) (k := 1) rfl (by omega) (ax_caSH (pc := 1210) dL_law_1210 kL_bridgesOf (by decide) rfl WM_L_191 WT_L_bridgesOf WN_L (Nat.le_of_ble_eq_true rfl)) kL_bridgesOf rfl True.intro (T_L_bridgesOf (by omega) hG hX r341) ?_
          refine x_istore (ls' := [some (vR 0), some (vR 150), some (vR 203), some (vR 243), some (vI v4), some (vI v343), none, none, none]) (pc := 1213) dL_law_1213 (Nat.le_of_ble_eq_true rfl) rfl rfl ?_
          refine x_aload_n (pc := 1215) dL_law_1215 rfl ?_
          refine x_aload_n (pc := 1216) dL_law_1216 rfl ?_
          refine x_iload (pc := 1217) dL_law_1217 rfl ?_
          refine x_iconst (pc := 1219) dL_law_1219 ⟨by decide, by decide⟩ ?_
          refine x_iadd (z := (v4 + 1)) (pc := 1220) dL_law_1220 rfl (ax_i (by omega) (by omega)) ?_
          by_cases h344 : 0 ≤ (v4 + 1) ∧ (v4 + 1) < N
          · replace hf := (if_pos h344).symm.trans hf
            refine x_saldN hSX hSN hXi (pc := 1221) dL_law_1221 h344.1 h344.2 ?_
            obtain ⟨v347, M346, r345, hf⟩ := bd2_some hf
            refine x_cr (v := vI v347) (vs := [vR 203, vI (X (Int.toNat (v4 + 1)))]) (rest := []) (k := 0) rfl (by omega) (ax_caV (pc := 1222) dL_law_1222 kX14_bridgesOf rfl rfl WM_L_193 WI_X14_bridgesOf WS_X14_bridgesOf WN_X14 (ax_rcO (t := 12) (axEx hG rfl) rfl (by decide)) (Nat.le_of_ble_eq_true rfl)) kX14_bridgesOf rfl True.intro (T_X14_bridgesOf (by omega) hG r345) ?_
            refine x_istore (ls' := [some (vR 0), some (vR 150), some (vR 203), some (vR 243), some (vI v4), some (vI v343), some (vI v347), none, none]) (pc := 1225) dL_law_1225 (Nat.le_of_ble_eq_true rfl) rfl rfl ?_
            refine x_aload_n (pc := 1227) dL_law_1227 rfl ?_
            refine x_cr (v := vI (fX14_thrown M346)) (vs := [vR 203]) (rest := []) (k := 0) rfl (by omega) (ax_caV (pc := 1228) dL_law_1228 kX14_thrown rfl rfl WM_L_111 WI_X14_thrown WS_X14_thrown WN_X14 (ax_rcO (t := 12) (axEx hG rfl) rfl (by decide)) (Nat.le_of_ble_eq_true rfl)) kX14_thrown rfl True.intro (T_X14_thrown (by omega) hG rfl) ?_
            refine x_iload (pc := 1231) dL_law_1231 rfl ?_
            refine x_icmpeq (tgt := 1238) (pc := 1233) dL_law_1233 rfl (fun h348 => ?_) (fun h348 => ?_)
            · replace hf := (if_pos h348).symm.trans hf
              refine x_iload (pc := 1238) dL_law_1238 rfl ?_
              refine x_ifne (tgt := 1255) (pc := 1240) dL_law_1240 rfl (fun h349 => ?_) (fun h349 => ?_)
              · replace hf := (if_neg h349).symm.trans hf
                refine x_goto (tgt := 2062) (pc := 1255) dL_law_1255 rfl ?_
                refine x_iincw (ls' := [some (vR 0), some (vR 150), some (vR 203), some (vR 243), some (vI (wr (v4 + 6))), some (vI v343), some (vI v347), none, none]) (pc := 2062) dL_law_2062 rfl (Nat.le_of_ble_eq_true rfl) rfl rfl ?_
                refine x_goto (tgt := 23) (pc := 2065) dL_law_2065 rfl ?_
                cases hf
                exact x_fgt (axS' (axS' (axS' (axS' (axS' (axN' (axN' (axN' (axN' axD))))))))) (h1 _ rfl)
              · replace hf := (if_pos h349).symm.trans hf
                refine x_aload_n (pc := 1243) dL_law_1243 rfl ?_
                refine x_iconst (pc := 1244) dL_law_1244 ⟨by decide, by decide⟩ ?_
                refine x_lald (j := 0) (n := 1) (pc := 1245) dL_law_1245 (axEx hG rfl) rfl rfl (by decide) ?_
                refine x_iload (pc := 1246) dL_law_1246 rfl ?_
                refine x_i2l (pc := 1248) dL_law_1248 ?_
                refine x_lcmp (z := (ilc (mJ M346 243 0) (il v347))) (pc := 1249) dL_law_1249 rfl ?_
                refine x_ifeq (tgt := 1255) (pc := 1250) dL_law_1250 rfl (fun h350 => ?_) (fun h350 => ?_)
                · replace hf := (if_pos h350).symm.trans hf
                  refine x_goto (tgt := 2062) (pc := 1255) dL_law_1255 rfl ?_
                  refine x_iincw (ls' := [some (vR 0), some (vR 150), some (vR 203), some (vR 243), some (vI (wr (v4 + 6))), some (vI v343), some (vI v347), none, none]) (pc := 2062) dL_law_2062 rfl (Nat.le_of_ble_eq_true rfl) rfl rfl ?_
                  refine x_goto (tgt := 23) (pc := 2065) dL_law_2065 rfl ?_
                  cases hf
                  exact x_fgt (axS' (axS' (axS' (axS' (axS' (axN' (axN' (axN' (axN' axD))))))))) (h1 _ rfl)
                · replace hf := (if_neg h350).symm.trans hf
                  cases hf
            · replace hf := (if_neg h348).symm.trans hf
              cases hf
          · replace hf := (if_neg h344).symm.trans hf
            cases hf
        · replace hf := (if_neg h340).symm.trans hf
          cases hf
      replace hf := (if_neg h339).symm.trans hf
      by_cases h351 : (iand (X (Int.toNat v4)) 63) = 23
      · replace hf := (if_pos h351).symm.trans hf
        refine x_tabIn (tgt := 1258) 23 (pc := 40) dL_law_40 h351 (by decide) (by decide) rfl rfl ?_
        refine x_aload_n (pc := 1258) dL_law_1258 rfl ?_
        refine x_aload_n (pc := 1259) dL_law_1259 rfl ?_
        refine x_iload (pc := 1260) dL_law_1260 rfl ?_
        refine x_iconst (pc := 1262) dL_law_1262 ⟨by decide, by decide⟩ ?_
        refine x_iadd (z := (v4 + 1)) (pc := 1263) dL_law_1263 rfl (ax_i (by omega) (by omega)) ?_
        by_cases h352 : 0 ≤ (v4 + 1) ∧ (v4 + 1) < N
        · replace hf := (if_pos h352).symm.trans hf
          refine x_saldN hSX hSN hXi (pc := 1264) dL_law_1264 h352.1 h352.2 ?_
          refine x_aload_n (pc := 1265) dL_law_1265 rfl ?_
          obtain ⟨v355, M354, r353, hf⟩ := bd2_some hf
          refine x_cr (v := vI v355) (vs := [vR 150, vI (X (Int.toNat (v4 + 1))), vR 243]) (rest := []) (k := 1) rfl (by omega) (ax_caSH (pc := 1266) dL_law_1266 kL_brokenBridgesOf (by decide) rfl WM_L_194 WT_L_brokenBridgesOf WN_L (Nat.le_of_ble_eq_true rfl)) kL_brokenBridgesOf rfl True.intro (T_L_brokenBridgesOf (by omega) hG hX r353) ?_
          refine x_istore (ls' := [some (vR 0), some (vR 150), some (vR 203), some (vR 243), some (vI v4), some (vI v355), none, none, none]) (pc := 1269) dL_law_1269 (Nat.le_of_ble_eq_true rfl) rfl rfl ?_
          refine x_aload_n (pc := 1271) dL_law_1271 rfl ?_
          refine x_aload_n (pc := 1272) dL_law_1272 rfl ?_
          refine x_iload (pc := 1273) dL_law_1273 rfl ?_
          refine x_iconst (pc := 1275) dL_law_1275 ⟨by decide, by decide⟩ ?_
          refine x_iadd (z := (v4 + 1)) (pc := 1276) dL_law_1276 rfl (ax_i (by omega) (by omega)) ?_
          by_cases h356 : 0 ≤ (v4 + 1) ∧ (v4 + 1) < N
          · replace hf := (if_pos h356).symm.trans hf
            refine x_saldN hSX hSN hXi (pc := 1277) dL_law_1277 h356.1 h356.2 ?_
            obtain ⟨v359, M358, r357, hf⟩ := bd2_some hf
            refine x_cr (v := vI v359) (vs := [vR 203, vI (X (Int.toNat (v4 + 1)))]) (rest := []) (k := 0) rfl (by omega) (ax_caV (pc := 1278) dL_law_1278 kX14_brokenBridgesOf rfl rfl WM_L_196 WI_X14_brokenBridgesOf WS_X14_brokenBridgesOf WN_X14 (ax_rcO (t := 12) (axEx hG rfl) rfl (by decide)) (Nat.le_of_ble_eq_true rfl)) kX14_brokenBridgesOf rfl True.intro (T_X14_brokenBridgesOf (by omega) hG r357) ?_
            refine x_istore (ls' := [some (vR 0), some (vR 150), some (vR 203), some (vR 243), some (vI v4), some (vI v355), some (vI v359), none, none]) (pc := 1281) dL_law_1281 (Nat.le_of_ble_eq_true rfl) rfl rfl ?_
            refine x_aload_n (pc := 1283) dL_law_1283 rfl ?_
            refine x_cr (v := vI (fX14_thrown M358)) (vs := [vR 203]) (rest := []) (k := 0) rfl (by omega) (ax_caV (pc := 1284) dL_law_1284 kX14_thrown rfl rfl WM_L_111 WI_X14_thrown WS_X14_thrown WN_X14 (ax_rcO (t := 12) (axEx hG rfl) rfl (by decide)) (Nat.le_of_ble_eq_true rfl)) kX14_thrown rfl True.intro (T_X14_thrown (by omega) hG rfl) ?_
            refine x_iload (pc := 1287) dL_law_1287 rfl ?_
            refine x_icmpeq (tgt := 1294) (pc := 1289) dL_law_1289 rfl (fun h360 => ?_) (fun h360 => ?_)
            · replace hf := (if_pos h360).symm.trans hf
              refine x_iload (pc := 1294) dL_law_1294 rfl ?_
              refine x_ifne (tgt := 1311) (pc := 1296) dL_law_1296 rfl (fun h361 => ?_) (fun h361 => ?_)
              · replace hf := (if_neg h361).symm.trans hf
                refine x_goto (tgt := 2062) (pc := 1311) dL_law_1311 rfl ?_
                refine x_iincw (ls' := [some (vR 0), some (vR 150), some (vR 203), some (vR 243), some (vI (wr (v4 + 6))), some (vI v355), some (vI v359), none, none]) (pc := 2062) dL_law_2062 rfl (Nat.le_of_ble_eq_true rfl) rfl rfl ?_
                refine x_goto (tgt := 23) (pc := 2065) dL_law_2065 rfl ?_
                cases hf
                exact x_fgt (axS' (axS' (axS' (axS' (axS' (axN' (axN' (axN' (axN' axD))))))))) (h1 _ rfl)
              · replace hf := (if_pos h361).symm.trans hf
                refine x_aload_n (pc := 1299) dL_law_1299 rfl ?_
                refine x_iconst (pc := 1300) dL_law_1300 ⟨by decide, by decide⟩ ?_
                refine x_lald (j := 0) (n := 1) (pc := 1301) dL_law_1301 (axEx hG rfl) rfl rfl (by decide) ?_
                refine x_iload (pc := 1302) dL_law_1302 rfl ?_
                refine x_i2l (pc := 1304) dL_law_1304 ?_
                refine x_lcmp (z := (ilc (mJ M358 243 0) (il v359))) (pc := 1305) dL_law_1305 rfl ?_
                refine x_ifeq (tgt := 1311) (pc := 1306) dL_law_1306 rfl (fun h362 => ?_) (fun h362 => ?_)
                · replace hf := (if_pos h362).symm.trans hf
                  refine x_goto (tgt := 2062) (pc := 1311) dL_law_1311 rfl ?_
                  refine x_iincw (ls' := [some (vR 0), some (vR 150), some (vR 203), some (vR 243), some (vI (wr (v4 + 6))), some (vI v355), some (vI v359), none, none]) (pc := 2062) dL_law_2062 rfl (Nat.le_of_ble_eq_true rfl) rfl rfl ?_
                  refine x_goto (tgt := 23) (pc := 2065) dL_law_2065 rfl ?_
                  cases hf
                  exact x_fgt (axS' (axS' (axS' (axS' (axS' (axN' (axN' (axN' (axN' axD))))))))) (h1 _ rfl)
                · replace hf := (if_neg h362).symm.trans hf
                  cases hf
            · replace hf := (if_neg h360).symm.trans hf
              cases hf
          · replace hf := (if_neg h356).symm.trans hf
            cases hf
        · replace hf := (if_neg h352).symm.trans hf
          cases hf
      replace hf := (if_neg h351).symm.trans hf
      by_cases h363 : (iand (X (Int.toNat v4)) 63) = 24
      · replace hf := (if_pos h363).symm.trans hf
        refine x_tabIn (tgt := 1314) 24 (pc := 40) dL_law_40 h363 (by decide) (by decide) rfl rfl ?_
        refine x_aload_n (pc := 1314) dL_law_1314 rfl ?_
        refine x_aload_n (pc := 1315) dL_law_1315 rfl ?_
        refine x_iload (pc := 1316) dL_law_1316 rfl ?_
        refine x_iconst (pc := 1318) dL_law_1318 ⟨by decide, by decide⟩ ?_
        refine x_iadd (z := (v4 + 1)) (pc := 1319) dL_law_1319 rfl (ax_i (by omega) (by omega)) ?_
        by_cases h364 : 0 ≤ (v4 + 1) ∧ (v4 + 1) < N
        · replace hf := (if_pos h364).symm.trans hf
          refine x_saldN hSX hSN hXi (pc := 1320) dL_law_1320 h364.1 h364.2 ?_
          refine x_aload_n (pc := 1321) dL_law_1321 rfl ?_
          refine x_iload (pc := 1322) dL_law_1322 rfl ?_
          refine x_iconst (pc := 1324) dL_law_1324 ⟨by decide, by decide⟩ ?_
          refine x_iaddw (pc := 1325) dL_law_1325 ?_
          by_cases h365 : 0 ≤ (wr (v4 + 2)) ∧ (wr (v4 + 2)) < N
          · replace hf := (if_pos h365).symm.trans hf
            refine x_saldN hSX hSN hXi (pc := 1326) dL_law_1326 h365.1 h365.2 ?_
            refine x_aload_n (pc := 1327) dL_law_1327 rfl ?_
            obtain ⟨v368, M367, r366, hf⟩ := bd2_some hf
            refine x_cr (v := vI v368) (vs := [vR 150, vI (X (Int.toNat (v4 + 1))), vI (X (Int.toNat (wr (v4 + 2)))), vR 243]) (rest := []) (k := 1) rfl (by omega) (ax_caSH (pc := 1328) dL_law_1328 kL_isFrozen (by decide) rfl WM_L_197 WT_L_isFrozen WN_L (Nat.le_of_ble_eq_true rfl)) kL_isFrozen rfl True.intro (T_L_isFrozen (by omega) hG hX r366) ?_
            refine x_istore (ls' := [some (vR 0), some (vR 150), some (vR 203), some (vR 243), some (vI v4), some (vI v368), none, none, none]) (pc := 1331) dL_law_1331 (Nat.le_of_ble_eq_true rfl) rfl rfl ?_
            refine x_aload_n (pc := 1333) dL_law_1333 rfl ?_
            refine x_aload_n (pc := 1334) dL_law_1334 rfl ?_
            refine x_iload (pc := 1335) dL_law_1335 rfl ?_
            refine x_iconst (pc := 1337) dL_law_1337 ⟨by decide, by decide⟩ ?_
            refine x_iadd (z := (v4 + 1)) (pc := 1338) dL_law_1338 rfl (ax_i (by omega) (by omega)) ?_
            by_cases h369 : 0 ≤ (v4 + 1) ∧ (v4 + 1) < N
            · replace hf := (if_pos h369).symm.trans hf
              refine x_saldN hSX hSN hXi (pc := 1339) dL_law_1339 h369.1 h369.2 ?_
              refine x_aload_n (pc := 1340) dL_law_1340 rfl ?_
              refine x_iload (pc := 1341) dL_law_1341 rfl ?_
              refine x_iconst (pc := 1343) dL_law_1343 ⟨by decide, by decide⟩ ?_
              refine x_iaddw (pc := 1344) dL_law_1344 ?_
              by_cases h370 : 0 ≤ (wr (v4 + 2)) ∧ (wr (v4 + 2)) < N
              · replace hf := (if_pos h370).symm.trans hf
                refine x_saldN hSX hSN hXi (pc := 1345) dL_law_1345 h370.1 h370.2 ?_
                obtain ⟨v373, M372, r371, hf⟩ := bd2_some hf
                refine x_cr (v := vI v373) (vs := [vR 203, vI (X (Int.toNat (v4 + 1))), vI (X (Int.toNat (wr (v4 + 2))))]) (rest := []) (k := 0) rfl (by omega) (ax_caV (pc := 1346) dL_law_1346 kX14_isFrozen rfl rfl WM_L_199 WI_X14_isFrozen WS_X14_isFrozen WN_X14 (ax_rcO (t := 12) (axEx hG rfl) rfl (by decide)) (Nat.le_of_ble_eq_true rfl)) kX14_isFrozen rfl (Z_X14_isFrozen r371) (T_X14_isFrozen (by omega) hG r371) ?_
                refine x_istore (ls' := [some (vR 0), some (vR 150), some (vR 203), some (vR 243), some (vI v4), some (vI v368), some (vI v373), none, none]) (pc := 1349) dL_law_1349 (Nat.le_of_ble_eq_true rfl) rfl rfl ?_
                refine x_aload_n (pc := 1351) dL_law_1351 rfl ?_
                refine x_cr (v := vI (fX14_thrown M372)) (vs := [vR 203]) (rest := []) (k := 0) rfl (by omega) (ax_caV (pc := 1352) dL_law_1352 kX14_thrown rfl rfl WM_L_111 WI_X14_thrown WS_X14_thrown WN_X14 (ax_rcO (t := 12) (axEx hG rfl) rfl (by decide)) (Nat.le_of_ble_eq_true rfl)) kX14_thrown rfl True.intro (T_X14_thrown (by omega) hG rfl) ?_
                refine x_iload (pc := 1355) dL_law_1355 rfl ?_
                refine x_icmpeq (tgt := 1362) (pc := 1357) dL_law_1357 rfl (fun h374 => ?_) (fun h374 => ?_)
                · replace hf := (if_pos h374).symm.trans hf
                  refine x_iload (pc := 1362) dL_law_1362 rfl ?_
                  refine x_ifne (tgt := 1386) (pc := 1364) dL_law_1364 rfl (fun h375 => ?_) (fun h375 => ?_)
                  · replace hf := (if_neg h375).symm.trans hf
                    refine x_goto (tgt := 2062) (pc := 1386) dL_law_1386 rfl ?_
                    refine x_iincw (ls' := [some (vR 0), some (vR 150), some (vR 203), some (vR 243), some (vI (wr (v4 + 6))), some (vI v368), some (vI v373), none, none]) (pc := 2062) dL_law_2062 rfl (Nat.le_of_ble_eq_true rfl) rfl rfl ?_
                    refine x_goto (tgt := 23) (pc := 2065) dL_law_2065 rfl ?_
                    cases hf
                    exact x_fgt (axS' (axS' (axS' (axS' (axS' (axN' (axN' (axN' (axN' axD))))))))) (h1 _ rfl)
                  · replace hf := (if_pos h375).symm.trans hf
                    refine x_aload_n (pc := 1367) dL_law_1367 rfl ?_
                    refine x_iconst (pc := 1368) dL_law_1368 ⟨by decide, by decide⟩ ?_
                    refine x_lald (j := 0) (n := 1) (pc := 1369) dL_law_1369 (axEx hG rfl) rfl rfl (by decide) ?_
                    refine x_iload (pc := 1370) dL_law_1370 rfl ?_
                    refine x_ifeq (tgt := 1379) (pc := 1372) dL_law_1372 rfl (fun h376 => ?_) (fun h376 => ?_)
                    · replace hf := (if_pos h376).symm.trans hf
                      refine x_lconst (pc := 1379) dL_law_1379 ?_
                      refine x_lcmp (z := (ilc (mJ M372 243 0) (Int64.ofNat 0))) (pc := 1380) dL_law_1380 rfl ?_
                      refine x_ifeq (tgt := 1386) (pc := 1381) dL_law_1381 rfl (fun h377 => ?_) (fun h377 => ?_)
                      · replace hf := (if_pos h377).symm.trans hf
                        refine x_goto (tgt := 2062) (pc := 1386) dL_law_1386 rfl ?_
                        refine x_iincw (ls' := [some (vR 0), some (vR 150), some (vR 203), some (vR 243), some (vI (wr (v4 + 6))), some (vI v368), some (vI v373), none, none]) (pc := 2062) dL_law_2062 rfl (Nat.le_of_ble_eq_true rfl) rfl rfl ?_
                        refine x_goto (tgt := 23) (pc := 2065) dL_law_2065 rfl ?_
                        cases hf
                        exact x_fgt (axS' (axS' (axS' (axS' (axS' (axN' (axN' (axN' (axN' axD))))))))) (h1 _ rfl)
                      · replace hf := (if_neg h377).symm.trans hf
                        cases hf
                    · replace hf := (if_neg h376).symm.trans hf
                      refine x_lconst (pc := 1375) dL_law_1375 ?_
                      refine x_goto (tgt := 1380) (pc := 1376) dL_law_1376 rfl ?_
                      refine x_lcmp (z := (ilc (mJ M372 243 0) (Int64.ofNat 1))) (pc := 1380) dL_law_1380 rfl ?_
                      refine x_ifeq (tgt := 1386) (pc := 1381) dL_law_1381 rfl (fun h378 => ?_) (fun h378 => ?_)
                      · replace hf := (if_pos h378).symm.trans hf
                        refine x_goto (tgt := 2062) (pc := 1386) dL_law_1386 rfl ?_
                        refine x_iincw (ls' := [some (vR 0), some (vR 150), some (vR 203), some (vR 243), some (vI (wr (v4 + 6))), some (vI v368), some (vI v373), none, none]) (pc := 2062) dL_law_2062 rfl (Nat.le_of_ble_eq_true rfl) rfl rfl ?_
                        refine x_goto (tgt := 23) (pc := 2065) dL_law_2065 rfl ?_
                        cases hf
                        exact x_fgt (axS' (axS' (axS' (axS' (axS' (axN' (axN' (axN' (axN' axD))))))))) (h1 _ rfl)
                      · replace hf := (if_neg h378).symm.trans hf
                        cases hf
                · replace hf := (if_neg h374).symm.trans hf
                  cases hf
              · replace hf := (if_neg h370).symm.trans hf
                cases hf
            · replace hf := (if_neg h369).symm.trans hf
              cases hf
          · replace hf := (if_neg h365).symm.trans hf
            cases hf
        · replace hf := (if_neg h364).symm.trans hf
          cases hf
      replace hf := (if_neg h363).symm.trans hf
      by_cases h379 : (iand (X (Int.toNat v4)) 63) = 25
      · replace hf := (if_pos h379).symm.trans hf
        refine x_tabIn (tgt := 1389) 25 (pc := 40) dL_law_40 h379 (by decide) (by decide) rfl rfl ?_
        refine x_aload_n (pc := 1389) dL_law_1389 rfl ?_
        obtain ⟨v381, r380, hf⟩ := bd1_some hf
        refine x_cr (v := vI v381) (vs := [vR 150]) (rest := []) (k := 2) rfl (by omega) (ax_caV (pc := 1390) dL_law_1390 kX12_frozenCells rfl rfl WM_L_200 WI_X12_frozenCells WS_X12_frozenCells WN_X12 (ax_rcO (t := 10) (axEx hG rfl) rfl (by decide)) (Nat.le_of_ble_eq_true rfl)) kX12_frozenCells rfl True.intro (T_X12_frozenCells (by omega) hG r380) ?_
        refine x_aload_n (pc := 1393) dL_law_1393 rfl ?_
        obtain ⟨v384, M383, r382, hf⟩ := bd2_some hf
        refine x_cr (v := vI v384) (vs := [vR 203]) (rest := [vI v381]) (k := 0) rfl (by omega) (ax_caV (pc := 1394) dL_law_1394 kX14_frozenCells rfl rfl WM_L_203 WI_X14_frozenCells WS_X14_frozenCells WN_X14 (ax_rcO (t := 12) (axEx hG rfl) rfl (by decide)) (Nat.le_of_ble_eq_true rfl)) kX14_frozenCells rfl True.intro (T_X14_frozenCells (by omega) hG r382) ?_
        refine x_icmpeq (tgt := 2062) (pc := 1397) dL_law_1397 rfl (fun h385 => ?_) (fun h385 => ?_)
        · replace hf := (if_pos h385).symm.trans hf
          refine x_iincw (ls' := [some (vR 0), some (vR 150), some (vR 203), some (vR 243), some (vI (wr (v4 + 6))), none, none, none, none]) (pc := 2062) dL_law_2062 rfl (Nat.le_of_ble_eq_true rfl) rfl rfl ?_
          refine x_goto (tgt := 23) (pc := 2065) dL_law_2065 rfl ?_
          cases hf
          exact h1 _ rfl
        · replace hf := (if_neg h385).symm.trans hf
          cases hf
      replace hf := (if_neg h379).symm.trans hf
      by_cases h386 : (iand (X (Int.toNat v4)) 63) = 26
      · replace hf := (if_pos h386).symm.trans hf
        refine x_tabIn (tgt := 1402) 26 (pc := 40) dL_law_40 h386 (by decide) (by decide) rfl rfl ?_
        refine x_aload_n (pc := 1402) dL_law_1402 rfl ?_
        refine x_aload_n (pc := 1403) dL_law_1403 rfl ?_
        refine x_iload (pc := 1404) dL_law_1404 rfl ?_
        refine x_iconst (pc := 1406) dL_law_1406 ⟨by decide, by decide⟩ ?_
        refine x_iadd (z := (v4 + 1)) (pc := 1407) dL_law_1407 rfl (ax_i (by omega) (by omega)) ?_
        by_cases h387 : 0 ≤ (v4 + 1) ∧ (v4 + 1) < N
        · replace hf := (if_pos h387).symm.trans hf
          refine x_saldN hSX hSN hXi (pc := 1408) dL_law_1408 h387.1 h387.2 ?_
          refine x_aload_n (pc := 1409) dL_law_1409 rfl ?_
          obtain ⟨v390, M389, r388, hf⟩ := bd2_some hf
          refine x_cr (v := vI v390) (vs := [vR 150, vI (X (Int.toNat (v4 + 1))), vR 243]) (rest := []) (k := 1) rfl (by omega) (ax_caSH (pc := 1410) dL_law_1410 kL_stonesNeeded (by decide) rfl WM_L_204 WT_L_stonesNeeded WN_L (Nat.le_of_ble_eq_true rfl)) kL_stonesNeeded rfl True.intro (T_L_stonesNeeded (by omega) hG hX r388) ?_
          refine x_istore (ls' := [some (vR 0), some (vR 150), some (vR 203), some (vR 243), some (vI v4), some (vI v390), none, none, none]) (pc := 1413) dL_law_1413 (Nat.le_of_ble_eq_true rfl) rfl rfl ?_
          refine x_aload_n (pc := 1415) dL_law_1415 rfl ?_
          refine x_aload_n (pc := 1416) dL_law_1416 rfl ?_
          refine x_iload (pc := 1417) dL_law_1417 rfl ?_
          refine x_iconst (pc := 1419) dL_law_1419 ⟨by decide, by decide⟩ ?_
          refine x_iadd (z := (v4 + 1)) (pc := 1420) dL_law_1420 rfl (ax_i (by omega) (by omega)) ?_
          by_cases h391 : 0 ≤ (v4 + 1) ∧ (v4 + 1) < N
          · replace hf := (if_pos h391).symm.trans hf
            refine x_saldN hSX hSN hXi (pc := 1421) dL_law_1421 h391.1 h391.2 ?_
            obtain ⟨v394, M393, r392, hf⟩ := bd2_some hf
            refine x_cr (v := vI v394) (vs := [vR 203, vI (X (Int.toNat (v4 + 1)))]) (rest := []) (k := 0) rfl (by omega) (ax_caV (pc := 1422) dL_law_1422 kX14_stonesNeeded rfl rfl WM_L_206 WI_X14_stonesNeeded WS_X14_stonesNeeded WN_X14 (ax_rcO (t := 12) (axEx hG rfl) rfl (by decide)) (Nat.le_of_ble_eq_true rfl)) kX14_stonesNeeded rfl True.intro (T_X14_stonesNeeded (by omega) hG r392) ?_
            refine x_istore (ls' := [some (vR 0), some (vR 150), some (vR 203), some (vR 243), some (vI v4), some (vI v390), some (vI v394), none, none]) (pc := 1425) dL_law_1425 (Nat.le_of_ble_eq_true rfl) rfl rfl ?_
            refine x_aload_n (pc := 1427) dL_law_1427 rfl ?_
            refine x_cr (v := vI (fX14_thrown M393)) (vs := [vR 203]) (rest := []) (k := 0) rfl (by omega) (ax_caV (pc := 1428) dL_law_1428 kX14_thrown rfl rfl WM_L_111 WI_X14_thrown WS_X14_thrown WN_X14 (ax_rcO (t := 12) (axEx hG rfl) rfl (by decide)) (Nat.le_of_ble_eq_true rfl)) kX14_thrown rfl True.intro (T_X14_thrown (by omega) hG rfl) ?_
            refine x_iload (pc := 1431) dL_law_1431 rfl ?_
            refine x_icmpeq (tgt := 1438) (pc := 1433) dL_law_1433 rfl (fun h395 => ?_) (fun h395 => ?_)
            · replace hf := (if_pos h395).symm.trans hf
              refine x_iload (pc := 1438) dL_law_1438 rfl ?_
              refine x_ifne (tgt := 1455) (pc := 1440) dL_law_1440 rfl (fun h396 => ?_) (fun h396 => ?_)
              · replace hf := (if_neg h396).symm.trans hf
                refine x_goto (tgt := 2062) (pc := 1455) dL_law_1455 rfl ?_
                refine x_iincw (ls' := [some (vR 0), some (vR 150), some (vR 203), some (vR 243), some (vI (wr (v4 + 6))), some (vI v390), some (vI v394), none, none]) (pc := 2062) dL_law_2062 rfl (Nat.le_of_ble_eq_true rfl) rfl rfl ?_
                refine x_goto (tgt := 23) (pc := 2065) dL_law_2065 rfl ?_
                cases hf
                exact x_fgt (axS' (axS' (axS' (axS' (axS' (axN' (axN' (axN' (axN' axD))))))))) (h1 _ rfl)
              · replace hf := (if_pos h396).symm.trans hf
                refine x_aload_n (pc := 1443) dL_law_1443 rfl ?_
                refine x_iconst (pc := 1444) dL_law_1444 ⟨by decide, by decide⟩ ?_
                refine x_lald (j := 0) (n := 1) (pc := 1445) dL_law_1445 (axEx hG rfl) rfl rfl (by decide) ?_
                refine x_iload (pc := 1446) dL_law_1446 rfl ?_
                refine x_i2l (pc := 1448) dL_law_1448 ?_
                refine x_lcmp (z := (ilc (mJ M393 243 0) (il v394))) (pc := 1449) dL_law_1449 rfl ?_
                refine x_ifeq (tgt := 1455) (pc := 1450) dL_law_1450 rfl (fun h397 => ?_) (fun h397 => ?_)
                · replace hf := (if_pos h397).symm.trans hf
                  refine x_goto (tgt := 2062) (pc := 1455) dL_law_1455 rfl ?_
                  refine x_iincw (ls' := [some (vR 0), some (vR 150), some (vR 203), some (vR 243), some (vI (wr (v4 + 6))), some (vI v390), some (vI v394), none, none]) (pc := 2062) dL_law_2062 rfl (Nat.le_of_ble_eq_true rfl) rfl rfl ?_
                  refine x_goto (tgt := 23) (pc := 2065) dL_law_2065 rfl ?_
                  cases hf
                  exact x_fgt (axS' (axS' (axS' (axS' (axS' (axN' (axN' (axN' (axN' axD))))))))) (h1 _ rfl)
                · replace hf := (if_neg h397).symm.trans hf
                  cases hf
            · replace hf := (if_neg h395).symm.trans hf
              cases hf
          · replace hf := (if_neg h391).symm.trans hf
            cases hf
        · replace hf := (if_neg h387).symm.trans hf
          cases hf
      replace hf := (if_neg h386).symm.trans hf
      by_cases h398 : (iand (X (Int.toNat v4)) 63) = 27
      · replace hf := (if_pos h398).symm.trans hf
        refine x_tabIn (tgt := 1458) 27 (pc := 40) dL_law_40 h398 (by decide) (by decide) rfl rfl ?_
        refine x_aload_n (pc := 1458) dL_law_1458 rfl ?_
        refine x_aload_n (pc := 1459) dL_law_1459 rfl ?_
        refine x_iload (pc := 1460) dL_law_1460 rfl ?_
        refine x_iconst (pc := 1462) dL_law_1462 ⟨by decide, by decide⟩ ?_
        refine x_iadd (z := (v4 + 1)) (pc := 1463) dL_law_1463 rfl (ax_i (by omega) (by omega)) ?_
        by_cases h399 : 0 ≤ (v4 + 1) ∧ (v4 + 1) < N
        · replace hf := (if_pos h399).symm.trans hf
          refine x_saldN hSX hSN hXi (pc := 1464) dL_law_1464 h399.1 h399.2 ?_
          refine x_aload_n (pc := 1465) dL_law_1465 rfl ?_
          refine x_iload (pc := 1466) dL_law_1466 rfl ?_
          refine x_iconst (pc := 1468) dL_law_1468 ⟨by decide, by decide⟩ ?_
          refine x_iaddw (pc := 1469) dL_law_1469 ?_
          by_cases h400 : 0 ≤ (wr (v4 + 2)) ∧ (wr (v4 + 2)) < N
          · replace hf := (if_pos h400).symm.trans hf
            refine x_saldN hSX hSN hXi (pc := 1470) dL_law_1470 h400.1 h400.2 ?_
            refine x_aload_n (pc := 1471) dL_law_1471 rfl ?_
            refine x_iload (pc := 1472) dL_law_1472 rfl ?_
            refine x_iconst (pc := 1474) dL_law_1474 ⟨by decide, by decide⟩ ?_
            refine x_iaddw (pc := 1475) dL_law_1475 ?_
            by_cases h401 : 0 ≤ (wr (v4 + 3)) ∧ (wr (v4 + 3)) < N
            · replace hf := (if_pos h401).symm.trans hf
              refine x_saldN hSX hSN hXi (pc := 1476) dL_law_1476 h401.1 h401.2 ?_
              refine x_aload_n (pc := 1477) dL_law_1477 rfl ?_
              obtain ⟨v404, M403, r402, hf⟩ := bd2_some hf
              refine x_cr (v := vI v404) (vs := [vR 150, vI (X (Int.toNat (v4 + 1))), vI (X (Int.toNat (wr (v4 + 2)))), vI (X (Int.toNat (wr (v4 + 3)))), vR 243]) (rest := []) (k := 1) rfl (by omega) (ax_caSH (pc := 1478) dL_law_1478 kL_stonesNeededThrough (by decide) rfl WM_L_207 WT_L_stonesNeededThrough WN_L (Nat.le_of_ble_eq_true rfl)) kL_stonesNeededThrough rfl True.intro (T_L_stonesNeededThrough (by omega) hG hX r402) ?_
              refine x_istore (ls' := [some (vR 0), some (vR 150), some (vR 203), some (vR 243), some (vI v4), some (vI v404), none, none, none]) (pc := 1481) dL_law_1481 (Nat.le_of_ble_eq_true rfl) rfl rfl ?_
              refine x_aload_n (pc := 1483) dL_law_1483 rfl ?_
              refine x_aload_n (pc := 1484) dL_law_1484 rfl ?_
              refine x_iload (pc := 1485) dL_law_1485 rfl ?_
              refine x_iconst (pc := 1487) dL_law_1487 ⟨by decide, by decide⟩ ?_
              refine x_iadd (z := (v4 + 1)) (pc := 1488) dL_law_1488 rfl (ax_i (by omega) (by omega)) ?_
              by_cases h405 : 0 ≤ (v4 + 1) ∧ (v4 + 1) < N
              · replace hf := (if_pos h405).symm.trans hf
                refine x_saldN hSX hSN hXi (pc := 1489) dL_law_1489 h405.1 h405.2 ?_
                refine x_aload_n (pc := 1490) dL_law_1490 rfl ?_
                refine x_iload (pc := 1491) dL_law_1491 rfl ?_
                refine x_iconst (pc := 1493) dL_law_1493 ⟨by decide, by decide⟩ ?_
                refine x_iaddw (pc := 1494) dL_law_1494 ?_
                by_cases h406 : 0 ≤ (wr (v4 + 2)) ∧ (wr (v4 + 2)) < N
                · replace hf := (if_pos h406).symm.trans hf
                  refine x_saldN hSX hSN hXi (pc := 1495) dL_law_1495 h406.1 h406.2 ?_
                  refine x_aload_n (pc := 1496) dL_law_1496 rfl ?_
                  refine x_iload (pc := 1497) dL_law_1497 rfl ?_
                  refine x_iconst (pc := 1499) dL_law_1499 ⟨by decide, by decide⟩ ?_
                  refine x_iaddw (pc := 1500) dL_law_1500 ?_
                  by_cases h407 : 0 ≤ (wr (v4 + 3)) ∧ (wr (v4 + 3)) < N
                  · replace hf := (if_pos h407).symm.trans hf
                    refine x_saldN hSX hSN hXi (pc := 1501) dL_law_1501 h407.1 h407.2 ?_
                    obtain ⟨v410, M409, r408, hf⟩ := bd2_some hf
                    refine x_cr (v := vI v410) (vs := [vR 203, vI (X (Int.toNat (v4 + 1))), vI (X (Int.toNat (wr (v4 + 2)))), vI (X (Int.toNat (wr (v4 + 3))))]) (rest := []) (k := 1) rfl (by omega) (ax_caV (pc := 1502) dL_law_1502 kX14_stonesNeededThrough rfl rfl WM_L_209 WI_X14_stonesNeededThrough WS_X14_stonesNeededThrough WN_X14 (ax_rcO (t := 12) (axEx hG rfl) rfl (by decide)) (Nat.le_of_ble_eq_true rfl)) kX14_stonesNeededThrough rfl True.intro (T_X14_stonesNeededThrough (by omega) hG r408) ?_
                    refine x_istore (ls' := [some (vR 0), some (vR 150), some (vR 203), some (vR 243), some (vI v4), some (vI v404), some (vI v410), none, none]) (pc := 1505) dL_law_1505 (Nat.le_of_ble_eq_true rfl) rfl rfl ?_
                    refine x_aload_n (pc := 1507) dL_law_1507 rfl ?_
                    refine x_cr (v := vI (fX14_thrown M409)) (vs := [vR 203]) (rest := []) (k := 0) rfl (by omega) (ax_caV (pc := 1508) dL_law_1508 kX14_thrown rfl rfl WM_L_111 WI_X14_thrown WS_X14_thrown WN_X14 (ax_rcO (t := 12) (axEx hG rfl) rfl (by decide)) (Nat.le_of_ble_eq_true rfl)) kX14_thrown rfl True.intro (T_X14_thrown (by omega) hG rfl) ?_
                    refine x_iload (pc := 1511) dL_law_1511 rfl ?_
                    refine x_icmpeq (tgt := 1518) (pc := 1513) dL_law_1513 rfl (fun h411 => ?_) (fun h411 => ?_)
                    · replace hf := (if_pos h411).symm.trans hf
                      refine x_iload (pc := 1518) dL_law_1518 rfl ?_
                      refine x_ifne (tgt := 1535) (pc := 1520) dL_law_1520 rfl (fun h412 => ?_) (fun h412 => ?_)
                      · replace hf := (if_neg h412).symm.trans hf
                        refine x_goto (tgt := 2062) (pc := 1535) dL_law_1535 rfl ?_
                        refine x_iincw (ls' := [some (vR 0), some (vR 150), some (vR 203), some (vR 243), some (vI (wr (v4 + 6))), some (vI v404), some (vI v410), none, none]) (pc := 2062) dL_law_2062 rfl (Nat.le_of_ble_eq_true rfl) rfl rfl ?_
                        refine x_goto (tgt := 23) (pc := 2065) dL_law_2065 rfl ?_
                        cases hf
                        exact x_fgt (axS' (axS' (axS' (axS' (axS' (axN' (axN' (axN' (axN' axD))))))))) (h1 _ rfl)
                      · replace hf := (if_pos h412).symm.trans hf
                        refine x_aload_n (pc := 1523) dL_law_1523 rfl ?_
                        refine x_iconst (pc := 1524) dL_law_1524 ⟨by decide, by decide⟩ ?_
                        refine x_lald (j := 0) (n := 1) (pc := 1525) dL_law_1525 (axEx hG rfl) rfl rfl (by decide) ?_
                        refine x_iload (pc := 1526) dL_law_1526 rfl ?_
                        refine x_i2l (pc := 1528) dL_law_1528 ?_
                        refine x_lcmp (z := (ilc (mJ M409 243 0) (il v410))) (pc := 1529) dL_law_1529 rfl ?_
                        refine x_ifeq (tgt := 1535) (pc := 1530) dL_law_1530 rfl (fun h413 => ?_) (fun h413 => ?_)
                        · replace hf := (if_pos h413).symm.trans hf
                          refine x_goto (tgt := 2062) (pc := 1535) dL_law_1535 rfl ?_
                          refine x_iincw (ls' := [some (vR 0), some (vR 150), some (vR 203), some (vR 243), some (vI (wr (v4 + 6))), some (vI v404), some (vI v410), none, none]) (pc := 2062) dL_law_2062 rfl (Nat.le_of_ble_eq_true rfl) rfl rfl ?_
                          refine x_goto (tgt := 23) (pc := 2065) dL_law_2065 rfl ?_
                          cases hf
                          exact x_fgt (axS' (axS' (axS' (axS' (axS' (axN' (axN' (axN' (axN' axD))))))))) (h1 _ rfl)
                        · replace hf := (if_neg h413).symm.trans hf
                          cases hf
                    · replace hf := (if_neg h411).symm.trans hf
                      cases hf
                  · replace hf := (if_neg h407).symm.trans hf
                    cases hf
                · replace hf := (if_neg h406).symm.trans hf
                  cases hf
              · replace hf := (if_neg h405).symm.trans hf
                cases hf
            · replace hf := (if_neg h401).symm.trans hf
              cases hf
          · replace hf := (if_neg h400).symm.trans hf
            cases hf
        · replace hf := (if_neg h399).symm.trans hf
          cases hf
      replace hf := (if_neg h398).symm.trans hf
      by_cases h414 : (iand (X (Int.toNat v4)) 63) = 28
      · replace hf := (if_pos h414).symm.trans hf
        refine x_tabIn (tgt := 1538) 28 (pc := 40) dL_law_40 h414 (by decide) (by decide) rfl rfl ?_
        refine x_aload_n (pc := 1538) dL_law_1538 rfl ?_
        refine x_aload_n (pc := 1539) dL_law_1539 rfl ?_
        refine x_iload (pc := 1540) dL_law_1540 rfl ?_
        refine x_iconst (pc := 1542) dL_law_1542 ⟨by decide, by decide⟩ ?_
        refine x_iadd (z := (v4 + 1)) (pc := 1543) dL_law_1543 rfl (ax_i (by omega) (by omega)) ?_
        by_cases h415 : 0 ≤ (v4 + 1) ∧ (v4 + 1) < N
        · replace hf := (if_pos h415).symm.trans hf
          refine x_saldN hSX hSN hXi (pc := 1544) dL_law_1544 h415.1 h415.2 ?_
          refine x_aload_n (pc := 1545) dL_law_1545 rfl ?_
          refine x_iload (pc := 1546) dL_law_1546 rfl ?_
          refine x_iconst (pc := 1548) dL_law_1548 ⟨by decide, by decide⟩ ?_
          refine x_iaddw (pc := 1549) dL_law_1549 ?_
          by_cases h416 : 0 ≤ (wr (v4 + 2)) ∧ (wr (v4 + 2)) < N
          · replace hf := (if_pos h416).symm.trans hf
            refine x_saldN hSX hSN hXi (pc := 1550) dL_law_1550 h416.1 h416.2 ?_
            refine x_aload_n (pc := 1551) dL_law_1551 rfl ?_
            refine x_iload (pc := 1552) dL_law_1552 rfl ?_
            refine x_iconst (pc := 1554) dL_law_1554 ⟨by decide, by decide⟩ ?_
            refine x_iaddw (pc := 1555) dL_law_1555 ?_
            by_cases h417 : 0 ≤ (wr (v4 + 3)) ∧ (wr (v4 + 3)) < N
            · replace hf := (if_pos h417).symm.trans hf
              refine x_saldN hSX hSN hXi (pc := 1556) dL_law_1556 h417.1 h417.2 ?_
              refine x_aload_n (pc := 1557) dL_law_1557 rfl ?_
              obtain ⟨v420, M419, r418, hf⟩ := bd2_some hf
              refine x_cr (v := vI v420) (vs := [vR 150, vI (X (Int.toNat (v4 + 1))), vI (X (Int.toNat (wr (v4 + 2)))), vI (X (Int.toNat (wr (v4 + 3)))), vR 243]) (rest := []) (k := 1) rfl (by omega) (ax_caSH (pc := 1558) dL_law_1558 kL_isWinningCell (by decide) rfl WM_L_210 WT_L_isWinningCell WN_L (Nat.le_of_ble_eq_true rfl)) kL_isWinningCell rfl True.intro (T_L_isWinningCell (by omega) hG hX r418) ?_
              refine x_istore (ls' := [some (vR 0), some (vR 150), some (vR 203), some (vR 243), some (vI v4), some (vI v420), none, none, none]) (pc := 1561) dL_law_1561 (Nat.le_of_ble_eq_true rfl) rfl rfl ?_
              refine x_aload_n (pc := 1563) dL_law_1563 rfl ?_
              refine x_aload_n (pc := 1564) dL_law_1564 rfl ?_
              refine x_iload (pc := 1565) dL_law_1565 rfl ?_
              refine x_iconst (pc := 1567) dL_law_1567 ⟨by decide, by decide⟩ ?_
              refine x_iadd (z := (v4 + 1)) (pc := 1568) dL_law_1568 rfl (ax_i (by omega) (by omega)) ?_
              by_cases h421 : 0 ≤ (v4 + 1) ∧ (v4 + 1) < N
              · replace hf := (if_pos h421).symm.trans hf
                refine x_saldN hSX hSN hXi (pc := 1569) dL_law_1569 h421.1 h421.2 ?_
                refine x_aload_n (pc := 1570) dL_law_1570 rfl ?_
                refine x_iload (pc := 1571) dL_law_1571 rfl ?_
                refine x_iconst (pc := 1573) dL_law_1573 ⟨by decide, by decide⟩ ?_
                refine x_iaddw (pc := 1574) dL_law_1574 ?_
                by_cases h422 : 0 ≤ (wr (v4 + 2)) ∧ (wr (v4 + 2)) < N
                · replace hf := (if_pos h422).symm.trans hf
                  refine x_saldN hSX hSN hXi (pc := 1575) dL_law_1575 h422.1 h422.2 ?_
                  refine x_aload_n (pc := 1576) dL_law_1576 rfl ?_
                  refine x_iload (pc := 1577) dL_law_1577 rfl ?_
                  refine x_iconst (pc := 1579) dL_law_1579 ⟨by decide, by decide⟩ ?_
                  refine x_iaddw (pc := 1580) dL_law_1580 ?_
                  by_cases h423 : 0 ≤ (wr (v4 + 3)) ∧ (wr (v4 + 3)) < N
                  · replace hf := (if_pos h423).symm.trans hf
                    refine x_saldN hSX hSN hXi (pc := 1581) dL_law_1581 h423.1 h423.2 ?_
                    obtain ⟨v426, M425, r424, hf⟩ := bd2_some hf
                    refine x_cr (v := vI v426) (vs := [vR 203, vI (X (Int.toNat (v4 + 1))), vI (X (Int.toNat (wr (v4 + 2)))), vI (X (Int.toNat (wr (v4 + 3))))]) (rest := []) (k := 0) rfl (by omega) (ax_caV (pc := 1582) dL_law_1582 kX14_isWinningCell rfl rfl WM_L_212 WI_X14_isWinningCell WS_X14_isWinningCell WN_X14 (ax_rcO (t := 12) (axEx hG rfl) rfl (by decide)) (Nat.le_of_ble_eq_true rfl)) kX14_isWinningCell rfl (Z_X14_isWinningCell r424) (T_X14_isWinningCell (by omega) hG r424) ?_
                    refine x_istore (ls' := [some (vR 0), some (vR 150), some (vR 203), some (vR 243), some (vI v4), some (vI v420), some (vI v426), none, none]) (pc := 1585) dL_law_1585 (Nat.le_of_ble_eq_true rfl) rfl rfl ?_
                    refine x_aload_n (pc := 1587) dL_law_1587 rfl ?_
                    refine x_cr (v := vI (fX14_thrown M425)) (vs := [vR 203]) (rest := []) (k := 0) rfl (by omega) (ax_caV (pc := 1588) dL_law_1588 kX14_thrown rfl rfl WM_L_111 WI_X14_thrown WS_X14_thrown WN_X14 (ax_rcO (t := 12) (axEx hG rfl) rfl (by decide)) (Nat.le_of_ble_eq_true rfl)) kX14_thrown rfl True.intro (T_X14_thrown (by omega) hG rfl) ?_
                    refine x_iload (pc := 1591) dL_law_1591 rfl ?_
                    refine x_icmpeq (tgt := 1598) (pc := 1593) dL_law_1593 rfl (fun h427 => ?_) (fun h427 => ?_)
                    · replace hf := (if_pos h427).symm.trans hf
                      refine x_iload (pc := 1598) dL_law_1598 rfl ?_
                      refine x_ifne (tgt := 1622) (pc := 1600) dL_law_1600 rfl (fun h428 => ?_) (fun h428 => ?_)
                      · replace hf := (if_neg h428).symm.trans hf
                        refine x_goto (tgt := 2062) (pc := 1622) dL_law_1622 rfl ?_
                        refine x_iincw (ls' := [some (vR 0), some (vR 150), some (vR 203), some (vR 243), some (vI (wr (v4 + 6))), some (vI v420), some (vI v426), none, none]) (pc := 2062) dL_law_2062 rfl (Nat.le_of_ble_eq_true rfl) rfl rfl ?_
                        refine x_goto (tgt := 23) (pc := 2065) dL_law_2065 rfl ?_
                        cases hf
                        exact x_fgt (axS' (axS' (axS' (axS' (axS' (axN' (axN' (axN' (axN' axD))))))))) (h1 _ rfl)
                      · replace hf := (if_pos h428).symm.trans hf
                        refine x_aload_n (pc := 1603) dL_law_1603 rfl ?_
                        refine x_iconst (pc := 1604) dL_law_1604 ⟨by decide, by decide⟩ ?_
                        refine x_lald (j := 0) (n := 1) (pc := 1605) dL_law_1605 (axEx hG rfl) rfl rfl (by decide) ?_
                        refine x_iload (pc := 1606) dL_law_1606 rfl ?_
                        refine x_ifeq (tgt := 1615) (pc := 1608) dL_law_1608 rfl (fun h429 => ?_) (fun h429 => ?_)
                        · replace hf := (if_pos h429).symm.trans hf
                          refine x_lconst (pc := 1615) dL_law_1615 ?_
                          refine x_lcmp (z := (ilc (mJ M425 243 0) (Int64.ofNat 0))) (pc := 1616) dL_law_1616 rfl ?_
                          refine x_ifeq (tgt := 1622) (pc := 1617) dL_law_1617 rfl (fun h430 => ?_) (fun h430 => ?_)
                          · replace hf := (if_pos h430).symm.trans hf
                            refine x_goto (tgt := 2062) (pc := 1622) dL_law_1622 rfl ?_
                            refine x_iincw (ls' := [some (vR 0), some (vR 150), some (vR 203), some (vR 243), some (vI (wr (v4 + 6))), some (vI v420), some (vI v426), none, none]) (pc := 2062) dL_law_2062 rfl (Nat.le_of_ble_eq_true rfl) rfl rfl ?_
                            refine x_goto (tgt := 23) (pc := 2065) dL_law_2065 rfl ?_
                            cases hf
                            exact x_fgt (axS' (axS' (axS' (axS' (axS' (axN' (axN' (axN' (axN' axD))))))))) (h1 _ rfl)
                          · replace hf := (if_neg h430).symm.trans hf
                            cases hf
                        · replace hf := (if_neg h429).symm.trans hf
                          refine x_lconst (pc := 1611) dL_law_1611 ?_
                          refine x_goto (tgt := 1616) (pc := 1612) dL_law_1612 rfl ?_
                          refine x_lcmp (z := (ilc (mJ M425 243 0) (Int64.ofNat 1))) (pc := 1616) dL_law_1616 rfl ?_
                          refine x_ifeq (tgt := 1622) (pc := 1617) dL_law_1617 rfl (fun h431 => ?_) (fun h431 => ?_)
                          · replace hf := (if_pos h431).symm.trans hf
                            refine x_goto (tgt := 2062) (pc := 1622) dL_law_1622 rfl ?_
                            refine x_iincw (ls' := [some (vR 0), some (vR 150), some (vR 203), some (vR 243), some (vI (wr (v4 + 6))), some (vI v420), some (vI v426), none, none]) (pc := 2062) dL_law_2062 rfl (Nat.le_of_ble_eq_true rfl) rfl rfl ?_
                            refine x_goto (tgt := 23) (pc := 2065) dL_law_2065 rfl ?_
                            cases hf
                            exact x_fgt (axS' (axS' (axS' (axS' (axS' (axN' (axN' (axN' (axN' axD))))))))) (h1 _ rfl)
                          · replace hf := (if_neg h431).symm.trans hf
                            cases hf
                    · replace hf := (if_neg h427).symm.trans hf
                      cases hf
                  · replace hf := (if_neg h423).symm.trans hf
                    cases hf
                · replace hf := (if_neg h422).symm.trans hf
                  cases hf
              · replace hf := (if_neg h421).symm.trans hf
                cases hf
            · replace hf := (if_neg h417).symm.trans hf
              cases hf
          · replace hf := (if_neg h416).symm.trans hf
            cases hf
        · replace hf := (if_neg h415).symm.trans hf
          cases hf
      replace hf := (if_neg h414).symm.trans hf
      by_cases h432 : (iand (X (Int.toNat v4)) 63) = 29
      · replace hf := (if_pos h432).symm.trans hf
        refine x_tabIn (tgt := 1625) 29 (pc := 40) dL_law_40 h432 (by decide) (by decide) rfl rfl ?_
        refine x_aload_n (pc := 1625) dL_law_1625 rfl ?_
        refine x_aload_n (pc := 1626) dL_law_1626 rfl ?_
        refine x_iload (pc := 1627) dL_law_1627 rfl ?_
        refine x_iconst (pc := 1629) dL_law_1629 ⟨by decide, by decide⟩ ?_
        refine x_iadd (z := (v4 + 1)) (pc := 1630) dL_law_1630 rfl (ax_i (by omega) (by omega)) ?_
        by_cases h433 : 0 ≤ (v4 + 1) ∧ (v4 + 1) < N
        · replace hf := (if_pos h433).symm.trans hf
          refine x_saldN hSX hSN hXi (pc := 1631) dL_law_1631 h433.1 h433.2 ?_
          refine x_aload_n (pc := 1632) dL_law_1632 rfl ?_
          obtain ⟨v436, M435, r434, hf⟩ := bd2_some hf
          refine x_cr (v := vI v436) (vs := [vR 150, vI (X (Int.toNat (v4 + 1))), vR 243]) (rest := []) (k := 1) rfl (by omega) (ax_caSH (pc := 1633) dL_law_1633 kL_winningCells (by decide) rfl WM_L_213 WT_L_winningCells WN_L (Nat.le_of_ble_eq_true rfl)) kL_winningCells rfl True.intro (T_L_winningCells (by omega) hG hX r434) ?_
          refine x_istore (ls' := [some (vR 0), some (vR 150), some (vR 203), some (vR 243), some (vI v4), some (vI v436), none, none, none]) (pc := 1636) dL_law_1636 (Nat.le_of_ble_eq_true rfl) rfl rfl ?_
          refine x_aload_n (pc := 1638) dL_law_1638 rfl ?_
          refine x_aload_n (pc := 1639) dL_law_1639 rfl ?_
          refine x_iload (pc := 1640) dL_law_1640 rfl ?_
          refine x_iconst (pc := 1642) dL_law_1642 ⟨by decide, by decide⟩ ?_
          refine x_iadd (z := (v4 + 1)) (pc := 1643) dL_law_1643 rfl (ax_i (by omega) (by omega)) ?_
          by_cases h437 : 0 ≤ (v4 + 1) ∧ (v4 + 1) < N
          · replace hf := (if_pos h437).symm.trans hf
            refine x_saldN hSX hSN hXi (pc := 1644) dL_law_1644 h437.1 h437.2 ?_
            obtain ⟨v440, M439, r438, hf⟩ := bd2_some hf
            refine x_cr (v := vI v440) (vs := [vR 203, vI (X (Int.toNat (v4 + 1)))]) (rest := []) (k := 0) rfl (by omega) (ax_caV (pc := 1645) dL_law_1645 kX14_winningCells rfl rfl WM_L_215 WI_X14_winningCells WS_X14_winningCells WN_X14 (ax_rcO (t := 12) (axEx hG rfl) rfl (by decide)) (Nat.le_of_ble_eq_true rfl)) kX14_winningCells rfl True.intro (T_X14_winningCells (by omega) hG r438) ?_
            refine x_istore (ls' := [some (vR 0), some (vR 150), some (vR 203), some (vR 243), some (vI v4), some (vI v436), some (vI v440), none, none]) (pc := 1648) dL_law_1648 (Nat.le_of_ble_eq_true rfl) rfl rfl ?_
            refine x_aload_n (pc := 1650) dL_law_1650 rfl ?_
            refine x_cr (v := vI (fX14_thrown M439)) (vs := [vR 203]) (rest := []) (k := 0) rfl (by omega) (ax_caV (pc := 1651) dL_law_1651 kX14_thrown rfl rfl WM_L_111 WI_X14_thrown WS_X14_thrown WN_X14 (ax_rcO (t := 12) (axEx hG rfl) rfl (by decide)) (Nat.le_of_ble_eq_true rfl)) kX14_thrown rfl True.intro (T_X14_thrown (by omega) hG rfl) ?_
            refine x_iload (pc := 1654) dL_law_1654 rfl ?_
            refine x_icmpeq (tgt := 1661) (pc := 1656) dL_law_1656 rfl (fun h441 => ?_) (fun h441 => ?_)
            · replace hf := (if_pos h441).symm.trans hf
              refine x_iload (pc := 1661) dL_law_1661 rfl ?_
              refine x_ifne (tgt := 1678) (pc := 1663) dL_law_1663 rfl (fun h442 => ?_) (fun h442 => ?_)
              · replace hf := (if_neg h442).symm.trans hf
                refine x_goto (tgt := 2062) (pc := 1678) dL_law_1678 rfl ?_
                refine x_iincw (ls' := [some (vR 0), some (vR 150), some (vR 203), some (vR 243), some (vI (wr (v4 + 6))), some (vI v436), some (vI v440), none, none]) (pc := 2062) dL_law_2062 rfl (Nat.le_of_ble_eq_true rfl) rfl rfl ?_
                refine x_goto (tgt := 23) (pc := 2065) dL_law_2065 rfl ?_
                cases hf
                exact x_fgt (axS' (axS' (axS' (axS' (axS' (axN' (axN' (axN' (axN' axD))))))))) (h1 _ rfl)
              · replace hf := (if_pos h442).symm.trans hf
                refine x_aload_n (pc := 1666) dL_law_1666 rfl ?_
                refine x_iconst (pc := 1667) dL_law_1667 ⟨by decide, by decide⟩ ?_
                refine x_lald (j := 0) (n := 1) (pc := 1668) dL_law_1668 (axEx hG rfl) rfl rfl (by decide) ?_
                refine x_iload (pc := 1669) dL_law_1669 rfl ?_
                refine x_i2l (pc := 1671) dL_law_1671 ?_
                refine x_lcmp (z := (ilc (mJ M439 243 0) (il v440))) (pc := 1672) dL_law_1672 rfl ?_
                refine x_ifeq (tgt := 1678) (pc := 1673) dL_law_1673 rfl (fun h443 => ?_) (fun h443 => ?_)
                · replace hf := (if_pos h443).symm.trans hf
                  refine x_goto (tgt := 2062) (pc := 1678) dL_law_1678 rfl ?_
                  refine x_iincw (ls' := [some (vR 0), some (vR 150), some (vR 203), some (vR 243), some (vI (wr (v4 + 6))), some (vI v436), some (vI v440), none, none]) (pc := 2062) dL_law_2062 rfl (Nat.le_of_ble_eq_true rfl) rfl rfl ?_
                  refine x_goto (tgt := 23) (pc := 2065) dL_law_2065 rfl ?_
                  cases hf
                  exact x_fgt (axS' (axS' (axS' (axS' (axS' (axN' (axN' (axN' (axN' axD))))))))) (h1 _ rfl)
                · replace hf := (if_neg h443).symm.trans hf
                  cases hf
            · replace hf := (if_neg h441).symm.trans hf
              cases hf
          · replace hf := (if_neg h437).symm.trans hf
            cases hf
        · replace hf := (if_neg h433).symm.trans hf
          cases hf
      replace hf := (if_neg h432).symm.trans hf
      by_cases h444 : (iand (X (Int.toNat v4)) 63) = 30
      · replace hf := (if_pos h444).symm.trans hf
        refine x_tabIn (tgt := 1681) 30 (pc := 40) dL_law_40 h444 (by decide) (by decide) rfl rfl ?_
        refine x_aload_n (pc := 1681) dL_law_1681 rfl ?_
        refine x_aload_n (pc := 1682) dL_law_1682 rfl ?_
        refine x_iload (pc := 1683) dL_law_1683 rfl ?_
        refine x_iconst (pc := 1685) dL_law_1685 ⟨by decide, by decide⟩ ?_
        refine x_iadd (z := (v4 + 1)) (pc := 1686) dL_law_1686 rfl (ax_i (by omega) (by omega)) ?_
        by_cases h445 : 0 ≤ (v4 + 1) ∧ (v4 + 1) < N
        · replace hf := (if_pos h445).symm.trans hf
          refine x_saldN hSX hSN hXi (pc := 1687) dL_law_1687 h445.1 h445.2 ?_
          refine x_aload_n (pc := 1688) dL_law_1688 rfl ?_
          refine x_iload (pc := 1689) dL_law_1689 rfl ?_
          refine x_iconst (pc := 1691) dL_law_1691 ⟨by decide, by decide⟩ ?_
          refine x_iaddw (pc := 1692) dL_law_1692 ?_
          by_cases h446 : 0 ≤ (wr (v4 + 2)) ∧ (wr (v4 + 2)) < N
          · replace hf := (if_pos h446).symm.trans hf
            refine x_saldN hSX hSN hXi (pc := 1693) dL_law_1693 h446.1 h446.2 ?_
            refine x_aload_n (pc := 1694) dL_law_1694 rfl ?_
            obtain ⟨v449, M448, r447, hf⟩ := bd2_some hf
            refine x_cr (v := vI v449) (vs := [vR 150, vI (X (Int.toNat (v4 + 1))), vI (X (Int.toNat (wr (v4 + 2)))), vR 243]) (rest := []) (k := 1) rfl (by omega) (ax_caSH (pc := 1695) dL_law_1695 kL_layStone (by decide) rfl WM_L_216 WT_L_layStone WN_L (Nat.le_of_ble_eq_true rfl)) kL_layStone rfl True.intro (T_L_layStone (by omega) hG hX r447) ?_
            refine x_istore (ls' := [some (vR 0), some (vR 150), some (vR 203), some (vR 243), some (vI v4), some (vI v449), none, none, none]) (pc := 1698) dL_law_1698 (Nat.le_of_ble_eq_true rfl) rfl rfl ?_
            refine x_aload_n (pc := 1700) dL_law_1700 rfl ?_
            refine x_aload_n (pc := 1701) dL_law_1701 rfl ?_
            refine x_iload (pc := 1702) dL_law_1702 rfl ?_
            refine x_iconst (pc := 1704) dL_law_1704 ⟨by decide, by decide⟩ ?_
            refine x_iadd (z := (v4 + 1)) (pc := 1705) dL_law_1705 rfl (ax_i (by omega) (by omega)) ?_
            by_cases h450 : 0 ≤ (v4 + 1) ∧ (v4 + 1) < N
            · replace hf := (if_pos h450).symm.trans hf
              refine x_saldN hSX hSN hXi (pc := 1706) dL_law_1706 h450.1 h450.2 ?_
              refine x_aload_n (pc := 1707) dL_law_1707 rfl ?_
              refine x_iload (pc := 1708) dL_law_1708 rfl ?_
              refine x_iconst (pc := 1710) dL_law_1710 ⟨by decide, by decide⟩ ?_
              refine x_iaddw (pc := 1711) dL_law_1711 ?_
              by_cases h451 : 0 ≤ (wr (v4 + 2)) ∧ (wr (v4 + 2)) < N
              · replace hf := (if_pos h451).symm.trans hf
                refine x_saldN hSX hSN hXi (pc := 1712) dL_law_1712 h451.1 h451.2 ?_
                obtain ⟨v454, M453, r452, hf⟩ := bd2_some hf
                refine x_cr (v := vI v454) (vs := [vR 203, vI (X (Int.toNat (v4 + 1))), vI (X (Int.toNat (wr (v4 + 2))))]) (rest := []) (k := 0) rfl (by omega) (ax_caV (pc := 1713) dL_law_1713 kX14_layStone rfl rfl WM_L_218 WI_X14_layStone WS_X14_layStone WN_X14 (ax_rcO (t := 12) (axEx hG rfl) rfl (by decide)) (Nat.le_of_ble_eq_true rfl)) kX14_layStone rfl True.intro (T_X14_layStone (by omega) hG r452) ?_
                refine x_istore (ls' := [some (vR 0), some (vR 150), some (vR 203), some (vR 243), some (vI v4), some (vI v449), some (vI v454), none, none]) (pc := 1716) dL_law_1716 (Nat.le_of_ble_eq_true rfl) rfl rfl ?_
                refine x_aload_n (pc := 1718) dL_law_1718 rfl ?_
                refine x_cr (v := vI (fX14_thrown M453)) (vs := [vR 203]) (rest := []) (k := 0) rfl (by omega) (ax_caV (pc := 1719) dL_law_1719 kX14_thrown rfl rfl WM_L_111 WI_X14_thrown WS_X14_thrown WN_X14 (ax_rcO (t := 12) (axEx hG rfl) rfl (by decide)) (Nat.le_of_ble_eq_true rfl)) kX14_thrown rfl True.intro (T_X14_thrown (by omega) hG rfl) ?_
                refine x_iload (pc := 1722) dL_law_1722 rfl ?_
                refine x_icmpeq (tgt := 1729) (pc := 1724) dL_law_1724 rfl (fun h455 => ?_) (fun h455 => ?_)
                · replace hf := (if_pos h455).symm.trans hf
                  refine x_iload (pc := 1729) dL_law_1729 rfl ?_
                  refine x_ifne (tgt := 1746) (pc := 1731) dL_law_1731 rfl (fun h456 => ?_) (fun h456 => ?_)
                  · replace hf := (if_neg h456).symm.trans hf
                    refine x_goto (tgt := 2062) (pc := 1746) dL_law_1746 rfl ?_
                    refine x_iincw (ls' := [some (vR 0), some (vR 150), some (vR 203), some (vR 243), some (vI (wr (v4 + 6))), some (vI v449), some (vI v454), none, none]) (pc := 2062) dL_law_2062 rfl (Nat.le_of_ble_eq_true rfl) rfl rfl ?_
                    refine x_goto (tgt := 23) (pc := 2065) dL_law_2065 rfl ?_
                    cases hf
                    exact x_fgt (axS' (axS' (axS' (axS' (axS' (axN' (axN' (axN' (axN' axD))))))))) (h1 _ rfl)
                  · replace hf := (if_pos h456).symm.trans hf
                    refine x_aload_n (pc := 1734) dL_law_1734 rfl ?_
                    refine x_iconst (pc := 1735) dL_law_1735 ⟨by decide, by decide⟩ ?_
                    refine x_lald (j := 0) (n := 1) (pc := 1736) dL_law_1736 (axEx hG rfl) rfl rfl (by decide) ?_
                    refine x_iload (pc := 1737) dL_law_1737 rfl ?_
                    refine x_i2l (pc := 1739) dL_law_1739 ?_
                    refine x_lcmp (z := (ilc (mJ M453 243 0) (il v454))) (pc := 1740) dL_law_1740 rfl ?_
                    refine x_ifeq (tgt := 1746) (pc := 1741) dL_law_1741 rfl (fun h457 => ?_) (fun h457 => ?_)
                    · replace hf := (if_pos h457).symm.trans hf
                      refine x_goto (tgt := 2062) (pc := 1746) dL_law_1746 rfl ?_
                      refine x_iincw (ls' := [some (vR 0), some (vR 150), some (vR 203), some (vR 243), some (vI (wr (v4 + 6))), some (vI v449), some (vI v454), none, none]) (pc := 2062) dL_law_2062 rfl (Nat.le_of_ble_eq_true rfl) rfl rfl ?_
                      refine x_goto (tgt := 23) (pc := 2065) dL_law_2065 rfl ?_
                      cases hf
                      exact x_fgt (axS' (axS' (axS' (axS' (axS' (axN' (axN' (axN' (axN' axD))))))))) (h1 _ rfl)
                    · replace hf := (if_neg h457).symm.trans hf
                      cases hf
                · replace hf := (if_neg h455).symm.trans hf
                  cases hf
              · replace hf := (if_neg h451).symm.trans hf
                cases hf
            · replace hf := (if_neg h450).symm.trans hf
              cases hf
          · replace hf := (if_neg h446).symm.trans hf
            cases hf
        · replace hf := (if_neg h445).symm.trans hf
          cases hf
      replace hf := (if_neg h444).symm.trans hf
      by_cases h458 : (iand (X (Int.toNat v4)) 63) = 31
      · replace hf := (if_pos h458).symm.trans hf
        refine x_tabIn (tgt := 1749) 31 (pc := 40) dL_law_40 h458 (by decide) (by decide) rfl rfl ?_
        refine x_aload_n (pc := 1749) dL_law_1749 rfl ?_
        refine x_aload_n (pc := 1750) dL_law_1750 rfl ?_
        obtain ⟨v461, M460, r459, hf⟩ := bd2_some hf
        refine x_cr (v := vI v461) (vs := [vR 150, vR 243]) (rest := []) (k := 1) rfl (by omega) (ax_caSH (pc := 1751) dL_law_1751 kL_takeBack (by decide) rfl WM_L_219 WT_L_takeBack WN_L (Nat.le_of_ble_eq_true rfl)) kL_takeBack rfl True.intro (T_L_takeBack (by omega) hG hX r459) ?_
        refine x_istore (ls' := [some (vR 0), some (vR 150), some (vR 203), some (vR 243), some (vI v4), some (vI v461), none, none, none]) (pc := 1754) dL_law_1754 (Nat.le_of_ble_eq_true rfl) rfl rfl ?_
        refine x_aload_n (pc := 1756) dL_law_1756 rfl ?_
        obtain ⟨v464, M463, r462, hf⟩ := bd2_some hf
        refine x_cr (v := vI v464) (vs := [vR 203]) (rest := []) (k := 0) rfl (by omega) (ax_caV (pc := 1757) dL_law_1757 kX14_takeBack rfl rfl WM_L_221 WI_X14_takeBack WS_X14_takeBack WN_X14 (ax_rcO (t := 12) (axEx hG rfl) rfl (by decide)) (Nat.le_of_ble_eq_true rfl)) kX14_takeBack rfl True.intro (T_X14_takeBack (by omega) hG r462) ?_
        refine x_istore (ls' := [some (vR 0), some (vR 150), some (vR 203), some (vR 243), some (vI v4), some (vI v461), some (vI v464), none, none]) (pc := 1760) dL_law_1760 (Nat.le_of_ble_eq_true rfl) rfl rfl ?_
        refine x_aload_n (pc := 1762) dL_law_1762 rfl ?_
        refine x_cr (v := vI (fX14_thrown M463)) (vs := [vR 203]) (rest := []) (k := 0) rfl (by omega) (ax_caV (pc := 1763) dL_law_1763 kX14_thrown rfl rfl WM_L_111 WI_X14_thrown WS_X14_thrown WN_X14 (ax_rcO (t := 12) (axEx hG rfl) rfl (by decide)) (Nat.le_of_ble_eq_true rfl)) kX14_thrown rfl True.intro (T_X14_thrown (by omega) hG rfl) ?_
        refine x_iload (pc := 1766) dL_law_1766 rfl ?_
        refine x_icmpeq (tgt := 1773) (pc := 1768) dL_law_1768 rfl (fun h465 => ?_) (fun h465 => ?_)
        · replace hf := (if_pos h465).symm.trans hf
          refine x_iload (pc := 1773) dL_law_1773 rfl ?_
          refine x_ifne (tgt := 1790) (pc := 1775) dL_law_1775 rfl (fun h466 => ?_) (fun h466 => ?_)
          · replace hf := (if_neg h466).symm.trans hf
            refine x_goto (tgt := 2062) (pc := 1790) dL_law_1790 rfl ?_
            refine x_iincw (ls' := [some (vR 0), some (vR 150), some (vR 203), some (vR 243), some (vI (wr (v4 + 6))), some (vI v461), some (vI v464), none, none]) (pc := 2062) dL_law_2062 rfl (Nat.le_of_ble_eq_true rfl) rfl rfl ?_
            refine x_goto (tgt := 23) (pc := 2065) dL_law_2065 rfl ?_
            cases hf
            exact x_fgt (axS' (axS' (axS' (axS' (axS' (axN' (axN' (axN' (axN' axD))))))))) (h1 _ rfl)
          · replace hf := (if_pos h466).symm.trans hf
            refine x_aload_n (pc := 1778) dL_law_1778 rfl ?_
            refine x_iconst (pc := 1779) dL_law_1779 ⟨by decide, by decide⟩ ?_
            refine x_lald (j := 0) (n := 1) (pc := 1780) dL_law_1780 (axEx hG rfl) rfl rfl (by decide) ?_
            refine x_iload (pc := 1781) dL_law_1781 rfl ?_
            refine x_i2l (pc := 1783) dL_law_1783 ?_
            refine x_lcmp (z := (ilc (mJ M463 243 0) (il v464))) (pc := 1784) dL_law_1784 rfl ?_
            refine x_ifeq (tgt := 1790) (pc := 1785) dL_law_1785 rfl (fun h467 => ?_) (fun h467 => ?_)
            · replace hf := (if_pos h467).symm.trans hf
              refine x_goto (tgt := 2062) (pc := 1790) dL_law_1790 rfl ?_
              refine x_iincw (ls' := [some (vR 0), some (vR 150), some (vR 203), some (vR 243), some (vI (wr (v4 + 6))), some (vI v461), some (vI v464), none, none]) (pc := 2062) dL_law_2062 rfl (Nat.le_of_ble_eq_true rfl) rfl rfl ?_
              refine x_goto (tgt := 23) (pc := 2065) dL_law_2065 rfl ?_
              cases hf
              exact x_fgt (axS' (axS' (axS' (axS' (axS' (axN' (axN' (axN' (axN' axD))))))))) (h1 _ rfl)
            · replace hf := (if_neg h467).symm.trans hf
              cases hf
        · replace hf := (if_neg h465).symm.trans hf
          cases hf
      replace hf := (if_neg h458).symm.trans hf
      by_cases h468 : (iand (X (Int.toNat v4)) 63) = 32
      · replace hf := (if_pos h468).symm.trans hf
        refine x_tabIn (tgt := 1793) 32 (pc := 40) dL_law_40 h468 (by decide) (by decide) rfl rfl ?_
        refine x_aload_n (pc := 1793) dL_law_1793 rfl ?_
        refine x_aload_n (pc := 1794) dL_law_1794 rfl ?_
        obtain ⟨v471, M470, r469, hf⟩ := bd2_some hf
        refine x_cr (v := vI v471) (vs := [vR 150, vR 243]) (rest := []) (k := 1) rfl (by omega) (ax_caSH (pc := 1795) dL_law_1795 kL_plannedCell (by decide) rfl WM_L_222 WT_L_plannedCell WN_L (Nat.le_of_ble_eq_true rfl)) kL_plannedCell rfl True.intro (T_L_plannedCell (by omega) hG hX r469) ?_
        refine x_istore (ls' := [some (vR 0), some (vR 150), some (vR 203), some (vR 243), some (vI v4), some (vI v471), none, none, none]) (pc := 1798) dL_law_1798 (Nat.le_of_ble_eq_true rfl) rfl rfl ?_
        refine x_aload_n (pc := 1800) dL_law_1800 rfl ?_
        obtain ⟨v474, M473, r472, hf⟩ := bd2_some hf
        refine x_cr (v := vI v474) (vs := [vR 203]) (rest := []) (k := 0) rfl (by omega) (ax_caV (pc := 1801) dL_law_1801 kX14_plannedCell rfl rfl WM_L_224 WI_X14_plannedCell WS_X14_plannedCell WN_X14 (ax_rcO (t := 12) (axEx hG rfl) rfl (by decide)) (Nat.le_of_ble_eq_true rfl)) kX14_plannedCell rfl True.intro (T_X14_plannedCell (by omega) hG r472) ?_
        refine x_istore (ls' := [some (vR 0), some (vR 150), some (vR 203), some (vR 243), some (vI v4), some (vI v471), some (vI v474), none, none]) (pc := 1804) dL_law_1804 (Nat.le_of_ble_eq_true rfl) rfl rfl ?_
        refine x_aload_n (pc := 1806) dL_law_1806 rfl ?_
        refine x_cr (v := vI (fX14_thrown M473)) (vs := [vR 203]) (rest := []) (k := 0) rfl (by omega) (ax_caV (pc := 1807) dL_law_1807 kX14_thrown rfl rfl WM_L_111 WI_X14_thrown WS_X14_thrown WN_X14 (ax_rcO (t := 12) (axEx hG rfl) rfl (by decide)) (Nat.le_of_ble_eq_true rfl)) kX14_thrown rfl True.intro (T_X14_thrown (by omega) hG rfl) ?_
        refine x_iload (pc := 1810) dL_law_1810 rfl ?_
        refine x_icmpeq (tgt := 1817) (pc := 1812) dL_law_1812 rfl (fun h475 => ?_) (fun h475 => ?_)
        · replace hf := (if_pos h475).symm.trans hf
          refine x_iload (pc := 1817) dL_law_1817 rfl ?_
          refine x_ifne (tgt := 1834) (pc := 1819) dL_law_1819 rfl (fun h476 => ?_) (fun h476 => ?_)
          · replace hf := (if_neg h476).symm.trans hf
            refine x_goto (tgt := 2062) (pc := 1834) dL_law_1834 rfl ?_
            refine x_iincw (ls' := [some (vR 0), some (vR 150), some (vR 203), some (vR 243), some (vI (wr (v4 + 6))), some (vI v471), some (vI v474), none, none]) (pc := 2062) dL_law_2062 rfl (Nat.le_of_ble_eq_true rfl) rfl rfl ?_
            refine x_goto (tgt := 23) (pc := 2065) dL_law_2065 rfl ?_
            cases hf
            exact x_fgt (axS' (axS' (axS' (axS' (axS' (axN' (axN' (axN' (axN' axD))))))))) (h1 _ rfl)
          · replace hf := (if_pos h476).symm.trans hf
            refine x_aload_n (pc := 1822) dL_law_1822 rfl ?_
            refine x_iconst (pc := 1823) dL_law_1823 ⟨by decide, by decide⟩ ?_
            refine x_lald (j := 0) (n := 1) (pc := 1824) dL_law_1824 (axEx hG rfl) rfl rfl (by decide) ?_
            refine x_iload (pc := 1825) dL_law_1825 rfl ?_
            refine x_i2l (pc := 1827) dL_law_1827 ?_
            refine x_lcmp (z := (ilc (mJ M473 243 0) (il v474))) (pc := 1828) dL_law_1828 rfl ?_
            refine x_ifeq (tgt := 1834) (pc := 1829) dL_law_1829 rfl (fun h477 => ?_) (fun h477 => ?_)
            · replace hf := (if_pos h477).symm.trans hf
              refine x_goto (tgt := 2062) (pc := 1834) dL_law_1834 rfl ?_
              refine x_iincw (ls' := [some (vR 0), some (vR 150), some (vR 203), some (vR 243), some (vI (wr (v4 + 6))), some (vI v471), some (vI v474), none, none]) (pc := 2062) dL_law_2062 rfl (Nat.le_of_ble_eq_true rfl) rfl rfl ?_
              refine x_goto (tgt := 23) (pc := 2065) dL_law_2065 rfl ?_
              cases hf
              exact x_fgt (axS' (axS' (axS' (axS' (axS' (axN' (axN' (axN' (axN' axD))))))))) (h1 _ rfl)
            · replace hf := (if_neg h477).symm.trans hf
              cases hf
        · replace hf := (if_neg h475).symm.trans hf
          cases hf
      replace hf := (if_neg h468).symm.trans hf
      by_cases h478 : (iand (X (Int.toNat v4)) 63) = 33
      · replace hf := (if_pos h478).symm.trans hf
        refine x_tabIn (tgt := 1837) 33 (pc := 40) dL_law_40 h478 (by decide) (by decide) rfl rfl ?_
        refine x_aload_n (pc := 1837) dL_law_1837 rfl ?_
        refine x_aload_n (pc := 1838) dL_law_1838 rfl ?_
        refine x_iload (pc := 1839) dL_law_1839 rfl ?_
        refine x_iconst (pc := 1841) dL_law_1841 ⟨by decide, by decide⟩ ?_
        refine x_iadd (z := (v4 + 1)) (pc := 1842) dL_law_1842 rfl (ax_i (by omega) (by omega)) ?_
        by_cases h479 : 0 ≤ (v4 + 1) ∧ (v4 + 1) < N
        · replace hf := (if_pos h479).symm.trans hf
          refine x_saldN hSX hSN hXi (pc := 1843) dL_law_1843 h479.1 h479.2 ?_
          refine x_aload_n (pc := 1844) dL_law_1844 rfl ?_
          obtain ⟨v482, M481, r480, hf⟩ := bd2_some hf
          refine x_cr (v := vI v482) (vs := [vR 150, vI (X (Int.toNat (v4 + 1))), vR 243]) (rest := []) (k := 1) rfl (by omega) (ax_caSH (pc := 1845) dL_law_1845 kL_playByPlans (by decide) rfl WM_L_225 WT_L_playByPlans WN_L (Nat.le_of_ble_eq_true rfl)) kL_playByPlans rfl True.intro (T_L_playByPlans (by omega) hG hX r480) ?_
          refine x_istore (ls' := [some (vR 0), some (vR 150), some (vR 203), some (vR 243), some (vI v4), some (vI v482), none, none, none]) (pc := 1848) dL_law_1848 (Nat.le_of_ble_eq_true rfl) rfl rfl ?_
          refine x_aload_n (pc := 1850) dL_law_1850 rfl ?_
          refine x_aload_n (pc := 1851) dL_law_1851 rfl ?_
          refine x_iload (pc := 1852) dL_law_1852 rfl ?_
          refine x_iconst (pc := 1854) dL_law_1854 ⟨by decide, by decide⟩ ?_
          refine x_iadd (z := (v4 + 1)) (pc := 1855) dL_law_1855 rfl (ax_i (by omega) (by omega)) ?_
          by_cases h483 : 0 ≤ (v4 + 1) ∧ (v4 + 1) < N
          · replace hf := (if_pos h483).symm.trans hf
            refine x_saldN hSX hSN hXi (pc := 1856) dL_law_1856 h483.1 h483.2 ?_
            obtain ⟨v486, M485, r484, hf⟩ := bd2_some hf
            refine x_cr (v := vI v486) (vs := [vR 203, vI (X (Int.toNat (v4 + 1)))]) (rest := []) (k := 0) rfl (by omega) (ax_caV (pc := 1857) dL_law_1857 kX14_playByPlans rfl rfl WM_L_227 WI_X14_playByPlans WS_X14_playByPlans WN_X14 (ax_rcO (t := 12) (axEx hG rfl) rfl (by decide)) (Nat.le_of_ble_eq_true rfl)) kX14_playByPlans rfl True.intro (T_X14_playByPlans (by omega) hG r484) ?_
            refine x_istore (ls' := [some (vR 0), some (vR 150), some (vR 203), some (vR 243), some (vI v4), some (vI v482), some (vI v486), none, none]) (pc := 1860) dL_law_1860 (Nat.le_of_ble_eq_true rfl) rfl rfl ?_
            refine x_aload_n (pc := 1862) dL_law_1862 rfl ?_
            refine x_cr (v := vI (fX14_thrown M485)) (vs := [vR 203]) (rest := []) (k := 0) rfl (by omega) (ax_caV (pc := 1863) dL_law_1863 kX14_thrown rfl rfl WM_L_111 WI_X14_thrown WS_X14_thrown WN_X14 (ax_rcO (t := 12) (axEx hG rfl) rfl (by decide)) (Nat.le_of_ble_eq_true rfl)) kX14_thrown rfl True.intro (T_X14_thrown (by omega) hG rfl) ?_
            refine x_iload (pc := 1866) dL_law_1866 rfl ?_
            refine x_icmpeq (tgt := 1873) (pc := 1868) dL_law_1868 rfl (fun h487 => ?_) (fun h487 => ?_)
            · replace hf := (if_pos h487).symm.trans hf
              refine x_iload (pc := 1873) dL_law_1873 rfl ?_
              refine x_ifne (tgt := 1890) (pc := 1875) dL_law_1875 rfl (fun h488 => ?_) (fun h488 => ?_)
              · replace hf := (if_neg h488).symm.trans hf
                refine x_goto (tgt := 2062) (pc := 1890) dL_law_1890 rfl ?_
                refine x_iincw (ls' := [some (vR 0), some (vR 150), some (vR 203), some (vR 243), some (vI (wr (v4 + 6))), some (vI v482), some (vI v486), none, none]) (pc := 2062) dL_law_2062 rfl (Nat.le_of_ble_eq_true rfl) rfl rfl ?_
                refine x_goto (tgt := 23) (pc := 2065) dL_law_2065 rfl ?_
                cases hf
                exact x_fgt (axS' (axS' (axS' (axS' (axS' (axN' (axN' (axN' (axN' axD))))))))) (h1 _ rfl)
              · replace hf := (if_pos h488).symm.trans hf
                refine x_aload_n (pc := 1878) dL_law_1878 rfl ?_
                refine x_iconst (pc := 1879) dL_law_1879 ⟨by decide, by decide⟩ ?_
                refine x_lald (j := 0) (n := 1) (pc := 1880) dL_law_1880 (axEx hG rfl) rfl rfl (by decide) ?_
                refine x_iload (pc := 1881) dL_law_1881 rfl ?_
                refine x_i2l (pc := 1883) dL_law_1883 ?_
                refine x_lcmp (z := (ilc (mJ M485 243 0) (il v486))) (pc := 1884) dL_law_1884 rfl ?_
                refine x_ifeq (tgt := 1890) (pc := 1885) dL_law_1885 rfl (fun h489 => ?_) (fun h489 => ?_)
                · replace hf := (if_pos h489).symm.trans hf
                  refine x_goto (tgt := 2062) (pc := 1890) dL_law_1890 rfl ?_
                  refine x_iincw (ls' := [some (vR 0), some (vR 150), some (vR 203), some (vR 243), some (vI (wr (v4 + 6))), some (vI v482), some (vI v486), none, none]) (pc := 2062) dL_law_2062 rfl (Nat.le_of_ble_eq_true rfl) rfl rfl ?_
                  refine x_goto (tgt := 23) (pc := 2065) dL_law_2065 rfl ?_
                  cases hf
                  exact x_fgt (axS' (axS' (axS' (axS' (axS' (axN' (axN' (axN' (axN' axD))))))))) (h1 _ rfl)
                · replace hf := (if_neg h489).symm.trans hf
                  cases hf
            · replace hf := (if_neg h487).symm.trans hf
              cases hf
          · replace hf := (if_neg h483).symm.trans hf
            cases hf
        · replace hf := (if_neg h479).symm.trans hf
          cases hf
      replace hf := (if_neg h478).symm.trans hf
      by_cases h490 : (iand (X (Int.toNat v4)) 63) = 34
      · replace hf := (if_pos h490).symm.trans hf
        refine x_tabIn (tgt := 1893) 34 (pc := 40) dL_law_40 h490 (by decide) (by decide) rfl rfl ?_
        refine x_aload_n (pc := 1893) dL_law_1893 rfl ?_
        obtain ⟨v493, M492, r491, hf⟩ := bd2_some hf
        refine x_cr (v := vI v493) (vs := [vR 150]) (rest := []) (k := 1) rfl (by omega) (ax_caV (pc := 1894) dL_law_1894 kX12_stonesByPlans rfl rfl WM_L_228 WI_X12_stonesByPlans WS_X12_stonesByPlans WN_X12 (ax_rcO (t := 10) (axEx hG rfl) rfl (by decide)) (Nat.le_of_ble_eq_true rfl)) kX12_stonesByPlans rfl True.intro (T_X12_stonesByPlans (by omega) hG r491) ?_
        refine x_aload_n (pc := 1897) dL_law_1897 rfl ?_
        obtain ⟨v496, M495, r494, hf⟩ := bd2_some hf
        refine x_cr (v := vI v496) (vs := [vR 203]) (rest := [vI v493]) (k := 1) rfl (by omega) (ax_caV (pc := 1898) dL_law_1898 kX14_stonesByPlans rfl rfl WM_L_231 WI_X14_stonesByPlans WS_X14_stonesByPlans WN_X14 (ax_rcO (t := 12) (axEx hG rfl) rfl (by decide)) (Nat.le_of_ble_eq_true rfl)) kX14_stonesByPlans rfl True.intro (T_X14_stonesByPlans (by omega) hG r494) ?_
        refine x_icmpeq (tgt := 2062) (pc := 1901) dL_law_1901 rfl (fun h497 => ?_) (fun h497 => ?_)
        · replace hf := (if_pos h497).symm.trans hf
          refine x_iincw (ls' := [some (vR 0), some (vR 150), some (vR 203), some (vR 243), some (vI (wr (v4 + 6))), none, none, none, none]) (pc := 2062) dL_law_2062 rfl (Nat.le_of_ble_eq_true rfl) rfl rfl ?_
          refine x_goto (tgt := 23) (pc := 2065) dL_law_2065 rfl ?_
          cases hf
          exact h1 _ rfl
        · replace hf := (if_neg h497).symm.trans hf
          cases hf
      replace hf := (if_neg h490).symm.trans hf
      by_cases h498 : (iand (X (Int.toNat v4)) 63) = 35
      · replace hf := (if_pos h498).symm.trans hf
        refine x_tabIn (tgt := 1906) 35 (pc := 40) dL_law_40 h498 (by decide) (by decide) rfl rfl ?_
        refine x_aload_n (pc := 1906) dL_law_1906 rfl ?_
        obtain ⟨v501, M500, r499, hf⟩ := bd2_some hf
        refine x_cr (v := vI v501) (vs := [vR 150]) (rest := []) (k := 2) rfl (by omega) (ax_caV (pc := 1907) dL_law_1907 kX12_winnerByPlans rfl rfl WM_L_232 WI_X12_winnerByPlans WS_X12_winnerByPlans WN_X12 (ax_rcO (t := 10) (axEx hG rfl) rfl (by decide)) (Nat.le_of_ble_eq_true rfl)) kX12_winnerByPlans rfl True.intro (T_X12_winnerByPlans (by omega) hG r499) ?_
        refine x_aload_n (pc := 1910) dL_law_1910 rfl ?_
        obtain ⟨v504, M503, r502, hf⟩ := bd2_some hf
        refine x_cr (v := vI v504) (vs := [vR 203]) (rest := [vI v501]) (k := 1) rfl (by omega) (ax_caV (pc := 1911) dL_law_1911 kX14_winnerByPlans rfl rfl WM_L_235 WI_X14_winnerByPlans WS_X14_winnerByPlans WN_X14 (ax_rcO (t := 12) (axEx hG rfl) rfl (by decide)) (Nat.le_of_ble_eq_true rfl)) kX14_winnerByPlans rfl True.intro (T_X14_winnerByPlans (by omega) hG r502) ?_
        refine x_icmpeq (tgt := 2062) (pc := 1914) dL_law_1914 rfl (fun h505 => ?_) (fun h505 => ?_)
        · replace hf := (if_pos h505).symm.trans hf
          refine x_iincw (ls' := [some (vR 0), some (vR 150), some (vR 203), some (vR 243), some (vI (wr (v4 + 6))), none, none, none, none]) (pc := 2062) dL_law_2062 rfl (Nat.le_of_ble_eq_true rfl) rfl rfl ?_
          refine x_goto (tgt := 23) (pc := 2065) dL_law_2065 rfl ?_
          cases hf
          exact h1 _ rfl
        · replace hf := (if_neg h505).symm.trans hf
          cases hf
      replace hf := (if_neg h498).symm.trans hf
      by_cases h506 : (iand (X (Int.toNat v4)) 63) = 36
      · replace hf := (if_pos h506).symm.trans hf
        refine x_tabIn (tgt := 1919) 36 (pc := 40) dL_law_40 h506 (by decide) (by decide) rfl rfl ?_
        refine x_aload_n (pc := 1919) dL_law_1919 rfl ?_
        refine x_aload_n (pc := 1920) dL_law_1920 rfl ?_
        obtain ⟨v509, M508, r507, hf⟩ := bd2_some hf
        refine x_cr (v := vI v509) (vs := [vR 150, vR 243]) (rest := []) (k := 1) rfl (by omega) (ax_caSH (pc := 1921) dL_law_1921 kL_mustPlay (by decide) rfl WM_L_236 WT_L_mustPlay WN_L (Nat.le_of_ble_eq_true rfl)) kL_mustPlay rfl True.intro (T_L_mustPlay (by omega) hG hX r507) ?_
        refine x_istore (ls' := [some (vR 0), some (vR 150), some (vR 203), some (vR 243), some (vI v4), some (vI v509), none, none, none]) (pc := 1924) dL_law_1924 (Nat.le_of_ble_eq_true rfl) rfl rfl ?_
        refine x_aload_n (pc := 1926) dL_law_1926 rfl ?_
        obtain ⟨v512, M511, r510, hf⟩ := bd2_some hf
        refine x_cr (v := vI v512) (vs := [vR 203]) (rest := []) (k := 1) rfl (by omega) (ax_caV (pc := 1927) dL_law_1927 kX14_mustPlay rfl rfl WM_L_238 WI_X14_mustPlay WS_X14_mustPlay WN_X14 (ax_rcO (t := 12) (axEx hG rfl) rfl (by decide)) (Nat.le_of_ble_eq_true rfl)) kX14_mustPlay rfl True.intro (T_X14_mustPlay (by omega) hG r510) ?_
        refine x_istore (ls' := [some (vR 0), some (vR 150), some (vR 203), some (vR 243), some (vI v4), some (vI v509), some (vI v512), none, none]) (pc := 1930) dL_law_1930 (Nat.le_of_ble_eq_true rfl) rfl rfl ?_
        refine x_aload_n (pc := 1932) dL_law_1932 rfl ?_
        refine x_cr (v := vI (fX14_thrown M511)) (vs := [vR 203]) (rest := []) (k := 0) rfl (by omega) (ax_caV (pc := 1933) dL_law_1933 kX14_thrown rfl rfl WM_L_111 WI_X14_thrown WS_X14_thrown WN_X14 (ax_rcO (t := 12) (axEx hG rfl) rfl (by decide)) (Nat.le_of_ble_eq_true rfl)) kX14_thrown rfl True.intro (T_X14_thrown (by omega) hG rfl) ?_
        refine x_iload (pc := 1936) dL_law_1936 rfl ?_
        refine x_icmpeq (tgt := 1943) (pc := 1938) dL_law_1938 rfl (fun h513 => ?_) (fun h513 => ?_)
        · replace hf := (if_pos h513).symm.trans hf
          refine x_iload (pc := 1943) dL_law_1943 rfl ?_
          refine x_ifne (tgt := 1960) (pc := 1945) dL_law_1945 rfl (fun h514 => ?_) (fun h514 => ?_)
          · replace hf := (if_neg h514).symm.trans hf
            refine x_goto (tgt := 2062) (pc := 1960) dL_law_1960 rfl ?_
            refine x_iincw (ls' := [some (vR 0), some (vR 150), some (vR 203), some (vR 243), some (vI (wr (v4 + 6))), some (vI v509), some (vI v512), none, none]) (pc := 2062) dL_law_2062 rfl (Nat.le_of_ble_eq_true rfl) rfl rfl ?_
            refine x_goto (tgt := 23) (pc := 2065) dL_law_2065 rfl ?_
            cases hf
            exact x_fgt (axS' (axS' (axS' (axS' (axS' (axN' (axN' (axN' (axN' axD))))))))) (h1 _ rfl)
          · replace hf := (if_pos h514).symm.trans hf
            refine x_aload_n (pc := 1948) dL_law_1948 rfl ?_
            refine x_iconst (pc := 1949) dL_law_1949 ⟨by decide, by decide⟩ ?_
            refine x_lald (j := 0) (n := 1) (pc := 1950) dL_law_1950 (axEx hG rfl) rfl rfl (by decide) ?_
            refine x_iload (pc := 1951) dL_law_1951 rfl ?_
            refine x_i2l (pc := 1953) dL_law_1953 ?_
            refine x_lcmp (z := (ilc (mJ M511 243 0) (il v512))) (pc := 1954) dL_law_1954 rfl ?_
            refine x_ifeq (tgt := 1960) (pc := 1955) dL_law_1955 rfl (fun h515 => ?_) (fun h515 => ?_)
            · replace hf := (if_pos h515).symm.trans hf
              refine x_goto (tgt := 2062) (pc := 1960) dL_law_1960 rfl ?_
              refine x_iincw (ls' := [some (vR 0), some (vR 150), some (vR 203), some (vR 243), some (vI (wr (v4 + 6))), some (vI v509), some (vI v512), none, none]) (pc := 2062) dL_law_2062 rfl (Nat.le_of_ble_eq_true rfl) rfl rfl ?_
              refine x_goto (tgt := 23) (pc := 2065) dL_law_2065 rfl ?_
              cases hf
              exact x_fgt (axS' (axS' (axS' (axS' (axS' (axN' (axN' (axN' (axN' axD))))))))) (h1 _ rfl)
            · replace hf := (if_neg h515).symm.trans hf
              cases hf
        · replace hf := (if_neg h513).symm.trans hf
          cases hf
      replace hf := (if_neg h506).symm.trans hf
      by_cases h516 : (iand (X (Int.toNat v4)) 63) = 37
      · replace hf := (if_pos h516).symm.trans hf
        refine x_tabIn (tgt := 1963) 37 (pc := 40) dL_law_40 h516 (by decide) (by decide) rfl rfl ?_
        refine x_aload_n (pc := 1963) dL_law_1963 rfl ?_
        refine x_aload_n (pc := 1964) dL_law_1964 rfl ?_
        obtain ⟨v519, M518, r517, hf⟩ := bd2_some hf
        refine x_cr (v := vI v519) (vs := [vR 150, vR 243]) (rest := []) (k := 1) rfl (by omega) (ax_caSH (pc := 1965) dL_law_1965 kL_bestCell (by decide) rfl WM_L_239 WT_L_bestCell WN_L (Nat.le_of_ble_eq_true rfl)) kL_bestCell rfl True.intro (T_L_bestCell (by omega) hG hX r517) ?_
        refine x_istore (ls' := [some (vR 0), some (vR 150), some (vR 203), some (vR 243), some (vI v4), some (vI v519), none, none, none]) (pc := 1968) dL_law_1968 (Nat.le_of_ble_eq_true rfl) rfl rfl ?_
        refine x_aload_n (pc := 1970) dL_law_1970 rfl ?_
        obtain ⟨v522, M521, r520, hf⟩ := bd2_some hf
        refine x_cr (v := vI v522) (vs := [vR 203]) (rest := []) (k := 0) rfl (by omega) (ax_caV (pc := 1971) dL_law_1971 kX14_bestCell rfl rfl WM_L_241 WI_X14_bestCell WS_X14_bestCell WN_X14 (ax_rcO (t := 12) (axEx hG rfl) rfl (by decide)) (Nat.le_of_ble_eq_true rfl)) kX14_bestCell rfl True.intro (T_X14_bestCell (by omega) hG r520) ?_
        refine x_istore (ls' := [some (vR 0), some (vR 150), some (vR 203), some (vR 243), some (vI v4), some (vI v519), some (vI v522), none, none]) (pc := 1974) dL_law_1974 (Nat.le_of_ble_eq_true rfl) rfl rfl ?_
        refine x_aload_n (pc := 1976) dL_law_1976 rfl ?_
        refine x_cr (v := vI (fX14_thrown M521)) (vs := [vR 203]) (rest := []) (k := 0) rfl (by omega) (ax_caV (pc := 1977) dL_law_1977 kX14_thrown rfl rfl WM_L_111 WI_X14_thrown WS_X14_thrown WN_X14 (ax_rcO (t := 12) (axEx hG rfl) rfl (by decide)) (Nat.le_of_ble_eq_true rfl)) kX14_thrown rfl True.intro (T_X14_thrown (by omega) hG rfl) ?_
        refine x_iload (pc := 1980) dL_law_1980 rfl ?_
        refine x_icmpeq (tgt := 1987) (pc := 1982) dL_law_1982 rfl (fun h523 => ?_) (fun h523 => ?_)
        · replace hf := (if_pos h523).symm.trans hf
          refine x_iload (pc := 1987) dL_law_1987 rfl ?_
          refine x_ifne (tgt := 2004) (pc := 1989) dL_law_1989 rfl (fun h524 => ?_) (fun h524 => ?_)
          · replace hf := (if_neg h524).symm.trans hf
            refine x_goto (tgt := 2062) (pc := 2004) dL_law_2004 rfl ?_
            refine x_iincw (ls' := [some (vR 0), some (vR 150), some (vR 203), some (vR 243), some (vI (wr (v4 + 6))), some (vI v519), some (vI v522), none, none]) (pc := 2062) dL_law_2062 rfl (Nat.le_of_ble_eq_true rfl) rfl rfl ?_
            refine x_goto (tgt := 23) (pc := 2065) dL_law_2065 rfl ?_
            cases hf
            exact x_fgt (axS' (axS' (axS' (axS' (axS' (axN' (axN' (axN' (axN' axD))))))))) (h1 _ rfl)
          · replace hf := (if_pos h524).symm.trans hf
            refine x_aload_n (pc := 1992) dL_law_1992 rfl ?_
            refine x_iconst (pc := 1993) dL_law_1993 ⟨by decide, by decide⟩ ?_
            refine x_lald (j := 0) (n := 1) (pc := 1994) dL_law_1994 (axEx hG rfl) rfl rfl (by decide) ?_
            refine x_iload (pc := 1995) dL_law_1995 rfl ?_
            refine x_i2l (pc := 1997) dL_law_1997 ?_
            refine x_lcmp (z := (ilc (mJ M521 243 0) (il v522))) (pc := 1998) dL_law_1998 rfl ?_
            refine x_ifeq (tgt := 2004) (pc := 1999) dL_law_1999 rfl (fun h525 => ?_) (fun h525 => ?_)
            · replace hf := (if_pos h525).symm.trans hf
              refine x_goto (tgt := 2062) (pc := 2004) dL_law_2004 rfl ?_
              refine x_iincw (ls' := [some (vR 0), some (vR 150), some (vR 203), some (vR 243), some (vI (wr (v4 + 6))), some (vI v519), some (vI v522), none, none]) (pc := 2062) dL_law_2062 rfl (Nat.le_of_ble_eq_true rfl) rfl rfl ?_
              refine x_goto (tgt := 23) (pc := 2065) dL_law_2065 rfl ?_
              cases hf
              exact x_fgt (axS' (axS' (axS' (axS' (axS' (axN' (axN' (axN' (axN' axD))))))))) (h1 _ rfl)
            · replace hf := (if_neg h525).symm.trans hf
              cases hf
        · replace hf := (if_neg h523).symm.trans hf
          cases hf
      replace hf := (if_neg h516).symm.trans hf
      by_cases h526 : (iand (X (Int.toNat v4)) 63) = 38
      · replace hf := (if_pos h526).symm.trans hf
        refine x_tabIn (tgt := 2007) 38 (pc := 40) dL_law_40 h526 (by decide) (by decide) rfl rfl ?_
        refine x_aload_n (pc := 2007) dL_law_2007 rfl ?_
        obtain ⟨v529, M528, r527, hf⟩ := bd2_some hf
        refine x_cr (v := vD v529) (vs := [vR 150]) (rest := []) (k := 1) rfl (by omega) (ax_caV (pc := 2008) dL_law_2008 kX12_meanGroup rfl rfl WM_L_242 WI_X12_meanGroup WS_X12_meanGroup WN_X12 (ax_rcO (t := 10) (axEx hG rfl) rfl (by decide)) (Nat.le_of_ble_eq_true rfl)) kX12_meanGroup rfl True.intro (T_X12_meanGroup (by omega) hG r527) ?_
        refine x_dstore (ls' := [some (vR 0), some (vR 150), some (vR 203), some (vR 243), some (vI v4), some (vD v529), none, none, none]) (pc := 2011) dL_law_2011 (Nat.le_of_ble_eq_true rfl) rfl rfl ?_
        refine x_aload_n (pc := 2013) dL_law_2013 rfl ?_
        obtain ⟨v532, M531, r530, hf⟩ := bd2_some hf
        refine x_cr (v := vD v532) (vs := [vR 203]) (rest := []) (k := 1) rfl (by omega) (ax_caV (pc := 2014) dL_law_2014 kX14_meanGroup rfl rfl WM_L_246 WI_X14_meanGroup WS_X14_meanGroup WN_X14 (ax_rcO (t := 12) (axEx hG rfl) rfl (by decide)) (Nat.le_of_ble_eq_true rfl)) kX14_meanGroup rfl True.intro (T_X14_meanGroup (by omega) hG r530) ?_
        refine x_dstore (ls' := [some (vR 0), some (vR 150), some (vR 203), some (vR 243), some (vI v4), some (vD v529), none, some (vD v532), none]) (pc := 2017) dL_law_2017 (Nat.le_of_ble_eq_true rfl) rfl rfl ?_
        refine x_dload (pc := 2019) dL_law_2019 rfl ?_
        refine x_dload (pc := 2021) dL_law_2021 rfl ?_
        refine x_dcmp (z := (idc v529 v532 .l)) (pc := 2023) dL_law_2023 rfl ?_
        refine x_ifeq (tgt := 2045) (pc := 2024) dL_law_2024 rfl (fun h533 => ?_) (fun h533 => ?_)
        · replace hf := (if_pos h533).symm.trans hf
          refine x_goto (tgt := 2062) (pc := 2045) dL_law_2045 rfl ?_
          refine x_iincw (ls' := [some (vR 0), some (vR 150), some (vR 203), some (vR 243), some (vI (wr (v4 + 6))), some (vD v529), none, some (vD v532), none]) (pc := 2062) dL_law_2062 rfl (Nat.le_of_ble_eq_true rfl) rfl rfl ?_
          refine x_goto (tgt := 23) (pc := 2065) dL_law_2065 rfl ?_
          cases hf
          exact x_fgt (axS' (axS' (axS' (axS' (axS' (axN' (axN' (axN' (axN' axD))))))))) (h1 _ rfl)
        · replace hf := (if_neg h533).symm.trans hf
          refine x_dload (pc := 2027) dL_law_2027 rfl ?_
          refine x_dload (pc := 2029) dL_law_2029 rfl ?_
          refine x_dcmp (z := (idc v529 v529 .l)) (pc := 2031) dL_law_2031 rfl ?_
          refine x_ifeq (tgt := 2043) (pc := 2032) dL_law_2032 rfl (fun h534 => ?_) (fun h534 => ?_)
          · replace hf := (if_pos h534).symm.trans hf
            cases hf
          · replace hf := (if_neg h534).symm.trans hf
            refine x_dload (pc := 2035) dL_law_2035 rfl ?_
            refine x_dload (pc := 2037) dL_law_2037 rfl ?_
            refine x_dcmp (z := (idc v532 v532 .l)) (pc := 2039) dL_law_2039 rfl ?_
            refine x_ifne (tgt := 2045) (pc := 2040) dL_law_2040 rfl (fun h535 => ?_) (fun h535 => ?_)
            · replace hf := (if_neg h535).symm.trans hf
              refine x_goto (tgt := 2062) (pc := 2045) dL_law_2045 rfl ?_
              refine x_iincw (ls' := [some (vR 0), some (vR 150), some (vR 203), some (vR 243), some (vI (wr (v4 + 6))), some (vD v529), none, some (vD v532), none]) (pc := 2062) dL_law_2062 rfl (Nat.le_of_ble_eq_true rfl) rfl rfl ?_
              refine x_goto (tgt := 23) (pc := 2065) dL_law_2065 rfl ?_
              cases hf
              exact x_fgt (axS' (axS' (axS' (axS' (axS' (axN' (axN' (axN' (axN' axD))))))))) (h1 _ rfl)
            · replace hf := (if_pos h535).symm.trans hf
              cases hf
      replace hf := (if_neg h526).symm.trans hf
      by_cases h536 : (iand (X (Int.toNat v4)) 63) = 39
      · replace hf := (if_pos h536).symm.trans hf
        refine x_tabIn (tgt := 2048) 39 (pc := 40) dL_law_40 h536 (by decide) (by decide) rfl rfl ?_
        refine x_aload_n (pc := 2048) dL_law_2048 rfl ?_
        obtain ⟨v539, M538, r537, hf⟩ := bd2_some hf
        refine x_cr (v := vL v539) (vs := [vR 150]) (rest := []) (k := 3) rfl (by omega) (ax_caV (pc := 2049) dL_law_2049 kX12_digest rfl rfl WM_L_247 WI_X12_digest WS_X12_digest WN_X12 (ax_rcO (t := 10) (axEx hG rfl) rfl (by decide)) (Nat.le_of_ble_eq_true rfl)) kX12_digest rfl True.intro (T_X12_digest (by omega) hG r537) ?_
        refine x_aload_n (pc := 2052) dL_law_2052 rfl ?_
        obtain ⟨v542, M541, r540, hf⟩ := bd2_some hf
        refine x_cr (v := vL v542) (vs := [vR 203]) (rest := [vL v539]) (k := 7) rfl (by omega) (ax_caV (pc := 2053) dL_law_2053 kX14_digest rfl rfl WM_L_251 WI_X14_digest WS_X14_digest WN_X14 (ax_rcO (t := 12) (axEx hG rfl) rfl (by decide)) (Nat.le_of_ble_eq_true rfl)) kX14_digest rfl True.intro (T_X14_digest (by omega) hG r540) ?_
        refine x_lcmp (z := (ilc v539 v542)) (pc := 2056) dL_law_2056 rfl ?_
        refine x_ifeq (tgt := 2062) (pc := 2057) dL_law_2057 rfl (fun h543 => ?_) (fun h543 => ?_)
        · replace hf := (if_pos h543).symm.trans hf
          refine x_iincw (ls' := [some (vR 0), some (vR 150), some (vR 203), some (vR 243), some (vI (wr (v4 + 6))), none, none, none, none]) (pc := 2062) dL_law_2062 rfl (Nat.le_of_ble_eq_true rfl) rfl rfl ?_
          refine x_goto (tgt := 23) (pc := 2065) dL_law_2065 rfl ?_
          cases hf
          exact h1 _ rfl
        · replace hf := (if_neg h543).symm.trans hf
          cases hf
      replace hf := (if_neg h536).symm.trans hf
      refine x_tabOut (tgt := 2062) (pc := 40) dL_law_40 (by omega) rfl ?_
      refine x_iincw (ls' := [some (vR 0), some (vR 150), some (vR 203), some (vR 243), some (vI (wr (v4 + 6))), none, none, none, none]) (pc := 2062) dL_law_2062 rfl (Nat.le_of_ble_eq_true rfl) rfl rfl ?_
      refine x_goto (tgt := 23) (pc := 2065) dL_law_2065 rfl ?_
      cases hf
      exact h1 _ rfl
    · replace hf := (if_neg h103).symm.trans hf
      cases hf
