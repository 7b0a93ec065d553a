/-! part C: loops that come to an end; the pond's beginning -/
theorem lp_go {σ ρ : Type} {b : σ → Option (σ ⊕ ρ)} {I : σ → Prop} {μ : σ → Nat} {Q : ρ → Prop} (hb : ∀ s, I s → (∃ r, b s = some (.inr r) ∧ Q r) ∨ (∃ s', b s = some (.inl s') ∧ I s' ∧ μ s' < μ s)) : ∀ (n : Nat) (s : σ), I s → μ s < n → ∃ r, lp b n s = some r ∧ Q r
  | 0, _, _, h => absurd h (Nat.not_lt_zero _)
  | n + 1, s, hi, hm => by
    simp only [lp]
    rcases hb s hi with ⟨r, e, q⟩ | ⟨s', e, hi', hm'⟩
    · rw [e]
      exact ⟨r, rfl, q⟩
    · rw [e]
      exact lp_go hb n s' hi' (by omega)
/-- a loop that counts up to n -/
theorem lp_cnt {ρ : Type} {b : Int × ax_M → Option ((Int × ax_M) ⊕ ρ)} {I : Nat → ax_M → Prop} {Q : ρ → Prop} (n : Nat) (hn : n < lpN) (hs : ∀ i M, i < n → I i M → ∃ M', b ((i : Int), M) = some (.inl (((i : Int) + 1), M')) ∧ I (i + 1) M') (he : ∀ M, I n M → ∃ r, b ((n : Int), M) = some (.inr r) ∧ Q r) (M : ax_M) (h0 : I 0 M) : ∃ r, lp b lpN (0, M) = some r ∧ Q r := by
  refine lp_go (I := fun s => ∃ i : Nat, s.1 = (i : Int) ∧ i ≤ n ∧ I i s.2) (μ := fun s => n - s.1.toNat) ?_ lpN (0, M) ⟨0, rfl, Nat.zero_le _, h0⟩ (by show n - (0 : Int).toNat < lpN; omega)
  rintro ⟨j, M1⟩ ⟨i, rfl, hi, hI⟩
  rcases Nat.lt_or_ge i n with h | h
  · right
    obtain ⟨M', e, hI'⟩ := hs i M1 h hI
    refine ⟨_, e, ⟨i + 1, by show (i : Int) + 1 = _; omega, h, hI'⟩, ?_⟩
    show n - ((i : Int) + 1).toNat < n - (i : Int).toNat
    omega
  · left
    have : i = n := by omega
    subst this
    exact he M1 hI
theorem wr_eq {x : Int} (h0 : -2147483648 ≤ x) (h1 : x < 2147483648) : wr x = x := wr_id ⟨h0, h1⟩
