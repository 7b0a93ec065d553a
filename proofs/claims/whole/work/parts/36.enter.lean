/-! from the walk of the law to what the claim asks of it -/
def ax_M0 : ax_M := (fun _ _ => 0, fun _ _ => none, fun _ _ => 0, 0, 0, fun _ => (0, 0))
theorem fL_law_one {X : Nat → Int} {N : Nat} {M M1 : ax_M} {r : Int} (hf : fL_law X N M = some (r, M1)) : r = 1 := by
  unfold fL_law at hf
  obtain ⟨_, _, hf⟩ := bd1_some hf
  split at hf
  · obtain ⟨_, _, hf⟩ := bd1_some hf
    split at hf
    · split at hf
      · obtain ⟨_, _, hf⟩ := bd1_some hf
        cases hf
        rfl
      · cases hf
    · cases hf
  · cases hf
theorem ax_wmono {p : Program} {l : Launch} {e : Env} {R : Room} {s : State} {m : MethodId} {args : Array Value} {below : List Frame} {meth : Method} {c : Code} {H : Heap} {locs : List Loc} {c1 c2 s1 s2 : Nat} {Q : State → Prop} {g : JFrame} (h1 : c1 ≤ c2) (h2 : s1 ≤ s2) (k : W p l e R s m args below meth c H locs c2 s2 Q g) : W p l e R s m args below meth c H locs c1 s1 Q g :=
  fun T hT X => k T hT { X with same := X.same.mono h1 h2 }
/-- the law's own end: what the claim asks, with the room as the Statement has it -/
def lq_Q (_ : Array Value) (s : State) (o : Outcome) (t : State) : Prop := o = .returned (some (.int 1)) ∧ State.butDraws s t lw_cs (fun t1 => Framed s o t1 [] room_1.cells room_1.slots)
def lq_Z (below : List Frame) (a : Array Value) (s : State) : State → Prop := fun t => ∃ o, t.status = .running ∧ Ended t below o ∧ lq_Q a s o t
theorem lq_ret {p : Program} {l : Launch} {e : Env} {s : State} {m : MethodId} {below : List Frame} {meth : Method} {c : Code} {b : Nat} {d0 : Drawn} (hd0 : s.drawn.sameBut d0 lw_cs) (hx : p.tables.exec = Jvm.exec) (hb : c.code = code) (hr : meth.sig.returnType = ret) (hlocks : meth.locks = false) {pc : Nat} {H : Heap} {ls : Array Slot} (hdg : decode code pc = .ok (.ireturn, 1)) : W p l e room_1 (s.setDrawn d0) m #[Value.ref b] below meth c H [] room_1.cells room_1.slots (lq_Z below #[Value.ref b] s) (F0 m pc ls [.int 1]) := by
  intro T hT X
  obtain ⟨fs, hret, hrun, hended, hW, hframe⟩ := X.leave (v := some (.int 1)) (hlocks := hlocks) (fun h => by rw [hr] at h; cases h)
  have hmeth' : T.vm.method? m = some meth := X.method'
  refine ⟨T.setFrames fs, ?_, .returned (some (.int 1)), hrun, hended, rfl, lw_closed hd0 ⟨_, rfl⟩ hW hframe⟩
  jvm_step X.here [X.here.top, hx, hb, hdg, hmeth', hr, ret, narrow_b1]
  (try refine ⟨rfl, ?_⟩); (try refine ⟨rfl, ?_⟩)
  first | (intro acts; rw [hret _ acts rfl rfl rfl]) | rw [hret _ _ rfl rfl rfl]
  exact Steps.refl _
/-- the law's walk, from its entry to what the claim asks -/
theorem ax_enter {G : ax_G} {p : Program} {e : Env} {s : State} {m : MethodId} {below : List Frame} {meth : Method} {c : Code} {X : Nat → Int} {N : Nat} {M1 : ax_M} {r : Int}
    (C : ax_C tL_law p s m #[Value.ref (ax_ad G 0)] meth c) (KS : ax_KS G s) (hsz : gSz G = s.heap.size) (hN : ∀ k, gPh G k = false) (hmu : ax_Mul) (hX : (gL G).stackTraces = false) (hSX : gX G = X) (hSN : gN G = N) (hNb : N < 2147483648) (hXi : ∀ j, ax_in (X j)) (hret : meth.sig.returnType = ret)
    (hf : fL_law X N ax_M0 = some (r, M1)) (b1 : mSz M1 ≤ 100000) (b2 : mSl M1 ≤ 100000) :
    W p (gL G) e room_1 s m #[Value.ref (ax_ad G 0)] below meth c s.heap [] 0 0 (lq_Z below #[Value.ref (ax_ad G 0)] s) (entryFrame m #[Value.ref (ax_ad G 0)] 9) := by
  have hr := fL_law_one hf
  subst hr
  have hT : ax_Ex G tL_law 145 0 (ax_args [vR 0] ++ List.replicate 8 none) [] ax_M0 (.inl (some (vI 1))) M1 := T_L_law (Nat.le_refl _) hN hmu hX hSX hSN hNb hXi rfl hf
  have gM : ax_g ax_M0 := ⟨fun _ _ => (by show (-2147483648 : Int) ≤ 0 ∧ (0 : Int) < 2147483648; decide), fun _ _ _ _ h => nomatch h⟩
  have hvs : ax_oS [vR 0] := ax_oS_cons ax_okR ax_oS_nil
  obtain ⟨-, hE⟩ := hT gM ax_oS_nil (ax_args_ok hvs 8)
  refine ax_wmono (c2 := 100000 - mSz M1) (s2 := 100000 - mSl M1) (Nat.zero_le _) (Nat.zero_le _) ?_
  show W p (gL G) e room_1 s m _ below meth c s.heap [] _ _ _ (entryFrame m ([vR 0].map (ax_cv G)).toArray 9)
  rw [lg_entry_eq]
  have hR : ax_Rel G ax_M0 s.heap := ⟨by rw [hsz]; rfl, fun k h => (by rw [hN k] at h; cases h), fun k h1 h2 => absurd (show k < 150 from h2) (Nat.not_lt.mpr h1), fun k h => (by rw [hN k] at h; cases h)⟩
  refine hE p e room_1 s m _ below meth c _ 100000 100000 s.heap [] (100000 - mSz M1) (100000 - mSl M1) _ C KS (Nat.le_of_eq hsz) (Nat.le_of_ble_eq_true rfl) (Nat.le_of_ble_eq_true rfl) (Nat.le_of_ble_eq_true rfl) (Nat.le_of_ble_eq_true rfl) (by show 100000 - mSz M1 + (mSz M1 - 0) = 100000; omega) (by show 100000 - mSl M1 + (mSl M1 - 0) = 100000; omega) hR ⟨Nat.le_refl _, fun _ _ _ => rfl, fun _ h => nomatch h⟩ ?_ ?_
  · have h1 := lv_entry ([vR 0].map (ax_cv G)) (n := tL_law.2.2.1) (by rw [ax_args_sl]; decide)
    rw [ax_args_lp]
    exact h1
  · intro H locs lc pc hR1 hS1 hd1
    intro T hT X
    have X1 := Stand.forget (locs := []) X (fun y hy => by rw [← hsz]; exact hS1.2.2 y hy)
    exact lq_ret (d0 := s.drawn) (Drawn.sameBut.refl s.drawn lw_cs) C.1 C.2.1 hret C.2.2.2.2.1 hd1 T hT { X1 with same := X1.same.mono (Nat.le_of_ble_eq_true rfl) (Nat.le_of_ble_eq_true rfl) }
