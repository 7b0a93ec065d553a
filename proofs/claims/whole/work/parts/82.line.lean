/-! part C: one line of a game, in step: stones, and what is no line -/
section LIN
variable {q : Nat} {kd : Int → Nat} {vl : Int → Int} {n : Int} {A B A1 B1 B' A' : ax_M} {t c d x p i : Int}
/-- the frames of a stone's line keep what is told of plans -/
theorem gGm.st (hq : q = 157 ∨ q = 194) (G : gGm q kd vl n A B t c) {t' : Int} (f : Fr2 s166 A A') (g : Fr s203 B B') (L : gLv q n A' B' t' c 0) (K : gMk kd vl t' B') (h : kd (t' - 1) ≠ 12) (ht : t ≤ t') (he : mI B 203 9 ≠ 0 → mI B' 203 9 ≠ 0) : gGm q kd vl n A' B' t' c := by
  obtain ⟨X, M, L0, K0, h0, ⟨p0, p1⟩, h9, hp, h16⟩ := G
  have e3 : mI B' 220 3 = mI B 220 3 := g.2 _ _ (by unfold s203; omega)
  have e9 : mI A' q 9 = mI A q 9 := (f.1 _ _ (by unfold s166; omega)).1
  refine ⟨X.f6 f, M.f3 g, L, K, h, ⟨by omega, by omega⟩, by rw [e3, e9]; exact h9, fun i i0 i1 => ?_, fun z => he (h16 (by omega))⟩
  obtain ⟨z1, z2⟩ := hp i (by omega) i1
  have pj : gPj q A' B' i := by
    obtain ⟨K, v, a, c1, c2, c3, h1, h2, h3, h4, h6, h7, ⟨e1, e2, e3, e4⟩, ⟨e5, e6⟩, ⟨b0, b1, b2, b3, b4⟩, o, o2⟩ := z1
    have ga : ∀ k j : Nat, q ≤ k → k ≤ q + 8 → mI A' k j = mI A k j ∧ mR A' k j = mR A k j := fun k j k0 k1 => f.1 k j (by unfold s166; omega)
    have gb : ∀ k j : Nat, 222 ≤ k → k ≤ 231 → mI B' k j = mI B k j := fun k j k0 k1 => g.2 k j (by unfold s203; omega)
    have gop' : gop q A' = gop q A := funext (fun j => by show (mR A' (q + 1) j.toNat).getD 50 = _; rw [(ga (q + 1) j.toNat (by omega) (by omega)).2])
    have god' : god q A' = god q A := funext (fun j => (ga (q + 2) j.toNat (by omega) (by omega)).1)
    have gS' : gnS B' = gnS B := funext (fun j => gb _ _ (by omega) (by omega))
    have gL' : gnL B' = gnL B := funext (fun j => gb _ _ (by omega) (by omega))
    have gR' : gnR B' = gnR B := funext (fun j => gb _ _ (by omega) (by omega))
    have ex : ∀ lo a b, gXp q A B lo a b → gXp q A' B' lo a b := fun lo a b H => by
      unfold gXp at H ⊢
      rw [gop', god', gS', gL', gR']
      exact H
    refine ⟨K, v, a, c1, c2, c3, (ga _ _ (by omega) (by omega)).2.trans h1, h2, (gb _ _ (by omega) (by omega)).trans h3, (ga _ _ (by omega) (by omega)).1.trans h4, (gb _ _ (by omega) (by omega)).trans h6, h7, ⟨(ga _ _ (by omega) (by omega)).1.trans e1, (ga _ _ (by omega) (by omega)).1.trans e2, (ga _ _ (by omega) (by omega)).1.trans e3, (ga _ _ (by omega) (by omega)).1.trans e4⟩, ⟨(gb _ _ (by omega) (by omega)).trans e5, (gb _ _ (by omega) (by omega)).trans e6⟩, ⟨b0, b1, b2, b3, b4⟩, ?_, ?_⟩
    · rcases o with ⟨k, x1, x2, x3, x4⟩ | k
      · exact Or.inl ⟨k, ex _ _ _ x1, (gb _ _ (by omega) (by omega)).trans x2, ex _ _ _ x3, (gb _ _ (by omega) (by omega)).trans x4⟩
      · exact Or.inr k
    · rcases o2 with ⟨x1, x2⟩ | ⟨x1, x2⟩
      · exact Or.inl ⟨(gb _ _ (by omega) (by omega)).trans x1, x2⟩
      · exact Or.inr ⟨ex _ _ _ x1, (gb _ _ (by omega) (by omega)).trans x2⟩
  exact ⟨pj, by rw [g.2 225 i (by unfold s203; omega)]; exact z2⟩
end LIN
