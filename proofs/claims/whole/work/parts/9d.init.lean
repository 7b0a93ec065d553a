/-! part C: the start -/
abbrev ax_S : Type := (Nat → Nat → Option Nat) × (Nat → Nat → Int64) × Nat × Nat × (Nat → Nat × Nat)
def sAl (s : ax_S) (t n sl : Nat) : ax_S := (fun a b => if a = axC + s.2.2.1 then none else s.1 a b, fun a b => if a = axC + s.2.2.1 then 0 else s.2.1 a b, s.2.2.1 + 1, s.2.2.2.1 + sl, fun a => if a = axC + s.2.2.1 then (t, n) else s.2.2.2.2 a)
def sUR (s : ax_S) (k j : Nat) (v : Option Nat) : ax_S := (ax_up s.1 k j v, s.2)
def sUI (s : ax_S) (_ _ : Nat) (_ : Int) : ax_S := s
def sFi (s : ax_S) (_ _ : Nat) (_ : Int) : ax_S := s
def sMu (s : ax_S) : ax_S := sUR (sUR (sUR (sUR (sAl (sAl (sAl (sAl (sAl s 37 4 4) 32 81 81) 32 81 81) 32 81 81) 32 81 81) (axC + s.2.2.1) 0 (some (axC + s.2.2.1 + 1))) (axC + s.2.2.1) 1 (some (axC + s.2.2.1 + 2))) (axC + s.2.2.1) 2 (some (axC + s.2.2.1 + 3))) (axC + s.2.2.1) 3 (some (axC + s.2.2.1 + 4))
def sfrz (s : ax_S) (a b : Nat) : Bool := ax_frz ((fun _ _ => 0), s) a b
theorem S_sz {M : ax_M} {s : ax_S} (h : M.2 = s) : mSz M = s.2.2.1 := by rw [← h]
theorem S_sl {M : ax_M} {s : ax_S} (h : M.2 = s) : mSl M = s.2.2.2.1 := by rw [← h]
theorem S_mR {M : ax_M} {s : ax_S} (h : M.2 = s) (k j : Nat) : mR M k j = s.1 k j := by rw [← h]
theorem frz_c {M M' : ax_M} (h1 : mSz M = mSz M') (h2 : mR M = mR M') (a b : Nat) : ax_frz M a b = ax_frz M' a b := by
  unfold ax_frz
  rw [h1, h2]
theorem S_frz {M : ax_M} {s : ax_S} (h : M.2 = s) (a b : Nat) : ax_frz M a b = sfrz s a b := frz_c (by show M.2.2.2.1 = s.2.2.1; rw [h]) (by show M.2.1 = s.1; rw [h]) a b
/-- older cells keep their ints -/
def Fi (c : Nat) (S : Nat → Nat → Prop) (A B : ax_M) : Prop := c ≤ mSz B ∧ ∀ k j, k < 150 + c → ¬ S k j → mI B k j = mI A k j
theorem Fi.al {c : Nat} {S : Nat → Nat → Prop} {A B : ax_M} (p : Fi c S A B) (t n s : Nat) : Fi c S A (mAl B t n s) := ⟨Nat.le_succ_of_le p.1, fun k j h z => (if_neg (by show ¬ k = 150 + mSz B; have := p.1; omega)).trans (p.2 k j h z)⟩
theorem Fi.ur {c : Nat} {S : Nat → Nat → Prop} {A B : ax_M} (p : Fi c S A B) (k j : Nat) (v : Option Nat) : Fi c S A (mUR B k j v) := p
theorem Fi.ui {c : Nat} {S : Nat → Nat → Prop} {A B : ax_M} (p : Fi c S A B) (k j : Nat) (v : Int) (h : S k j ∨ 150 + c ≤ k) : Fi c S A (mUI B k j v) := ⟨p.1, fun a b h1 z => (mI_Un (fun e => by
  rcases h with h | h
  · exact z (by rw [e.1, e.2]; exact h)
  · omega)).trans (p.2 a b h1 z)⟩
theorem Fi.fi {c : Nat} {S : Nat → Nat → Prop} {A B : ax_M} (p : Fi c S A B) (k n : Nat) (v : Int) (h : 150 + c ≤ k) : Fi c S A (mFi B k n v) := ⟨p.1, fun a b h1 z => by
  rw [mI_F, if_neg (by omega)]
  exact p.2 a b h1 z⟩
theorem Fi.mu {c : Nat} {S : Nat → Nat → Prop} {A B : ax_M} (p : Fi c S A B) : Fi c S A (mMu B) := (((((p.al 37 4 4).al 32 81 81).al 32 81 81).al 32 81 81).al 32 81 81)
theorem Fi.self {c : Nat} {S : Nat → Nat → Prop} {A : ax_M} (h : c ≤ mSz A) : Fi c S A A := ⟨h, fun _ _ _ _ => rfl⟩
def FZ (M : ax_M) : Prop := ∀ k j, mI M k j = 0
theorem FZ.al {M : ax_M} (p : FZ M) (t n s : Nat) : FZ (mAl M t n s) := fun k j => by
  show (if k = 150 + mSz M then 0 else mI M k j) = 0
  by_cases z : k = 150 + mSz M
  · rw [if_pos z]
  · rw [if_neg z]; exact p k j
theorem FZ.ur {M : ax_M} (p : FZ M) (k j : Nat) (v : Option Nat) : FZ (mUR M k j v) := p
theorem al_new (M : ax_M) (t n s : Nat) {k : Nat} (h : k = 150 + mSz M) (j : Nat) : mI (mAl M t n s) k j = 0 := if_pos h
def kj9 (M : ax_M) : ax_M := mUR (mAl M 33 2000 2000) 151 0 (some 152)
def sj9 (M : ax_S) : ax_S := sUR (sAl M 33 2000 2000) 151 0 (some 152)
def kj10 (M : ax_M) : ax_M := mUR (mAl (mUR (mAl (mUR (mAl M 36 401 401) 153 0 (some 154)) 32 401 401) 153 1 (some 155)) 32 401 401) 153 2 (some 156)
def sj10 (M : ax_S) : ax_S := sUR (sAl (sUR (sAl (sUR (sAl M 36 401 401) 153 0 (some 154)) 32 401 401) 153 1 (some 155)) 32 401 401) 153 2 (some 156)
def kj7a (M : ax_M) : ax_M := mUR (mAl (mUR (mAl (mUR (mAl (mUR (mAl (mUR (mAl (mUR (mAl (mUR (mAl (mUR (mAl M 36 400 400) 157 0 (some 158)) 32 400 400) 157 1 (some 159)) 36 16 16) 157 3 (some 160)) 32 16 16) 157 4 (some 161)) 32 16 16) 157 5 (some 162)) 32 16 16) 157 6 (some 163)) 32 16 16) 157 7 (some 164)) 32 16 16) 157 8 (some 165)
def sj7a (M : ax_S) : ax_S := sUR (sAl (sUR (sAl (sUR (sAl (sUR (sAl (sUR (sAl (sUR (sAl (sUR (sAl (sUR (sAl M 36 400 400) 157 0 (some 158)) 32 400 400) 157 1 (some 159)) 36 16 16) 157 3 (some 160)) 32 16 16) 157 4 (some 161)) 32 16 16) 157 5 (some 162)) 32 16 16) 157 6 (some 163)) 32 16 16) 157 7 (some 164)) 32 16 16) 157 8 (some 165)
def kj3 (M : ax_M) : ax_M := mUR (mUR M 166 0 (some 153)) 166 1 (some 157)
def sj3 (M : ax_S) : ax_S := sUR (sUR M 166 0 (some 153)) 166 1 (some 157)
def kj6 (M : ax_M) : ax_M := mUR (mUR (mAl M 32 81 81) 167 1 (some 168)) 167 0 (some 153)
def sj6 (M : ax_S) : ax_S := sUR (sUR (sAl M 32 81 81) 167 1 (some 168)) 167 0 (some 153)
def kj8 (M : ax_M) : ax_M := mUR (mAl (mUR (mAl (mUR (mAl (mUR (mAl (mUR (mAl (mUR (mAl M 32 81 81) 169 2 (some 170)) 32 486 486) 169 3 (some 171)) 32 81 81) 169 4 (some 172)) 32 81 81) 169 5 (some 173)) 32 2 2) 169 6 (some 174)) 32 81 81) 169 7 (some 175)
def sj8 (M : ax_S) : ax_S := sUR (sAl (sUR (sAl (sUR (sAl (sUR (sAl (sUR (sAl (sUR (sAl M 32 81 81) 169 2 (some 170)) 32 486 486) 169 3 (some 171)) 32 81 81) 169 4 (some 172)) 32 81 81) 169 5 (some 173)) 32 2 2) 169 6 (some 174)) 32 81 81) 169 7 (some 175)
def kj4 (M : ax_M) : ax_M := mUR (mUR (mAl (mUR (mAl M 32 81 81) 176 1 (some 177)) 32 81 81) 176 2 (some 178)) 176 0 (some 169)
def sj4 (M : ax_S) : ax_S := sUR (sUR (sAl (sUR (sAl M 32 81 81) 176 1 (some 177)) 32 81 81) 176 2 (some 178)) 176 0 (some 169)
def kj1 (M : ax_M) : ax_M := mUR (mUI (mUR (mAl (mUR (mAl (mUR (mAl M 32 2 2) 179 1 (some 180)) 32 2 2) 179 2 (some 181)) 32 2 2) 179 3 (some 182)) 179 4 (-1)) 179 0 (some 169)
def sj1 (M : ax_S) : ax_S := sUR (sUI (sUR (sAl (sUR (sAl (sUR (sAl M 32 2 2) 179 1 (some 180)) 32 2 2) 179 2 (some 181)) 32 2 2) 179 3 (some 182)) 179 4 (-1)) 179 0 (some 169)
def kj11 (M : ax_M) : ax_M := mFi (mUR (mUR (mAl (mUR (mAl (mUR (mAl (mUR (mMu M) 183 1 (some 184)) 32 4 4) 183 2 (some 189)) 32 2 2) 183 3 (some 190)) 32 162 162) 183 4 (some 191)) 183 0 (some 169)) 189 4 (-1)
def sj11 (M : ax_S) : ax_S := sFi (sUR (sUR (sAl (sUR (sAl (sUR (sAl (sUR (sMu M) 183 1 (some 184)) 32 4 4) 183 2 (some 189)) 32 2 2) 183 3 (some 190)) 32 162 162) 183 4 (some 191)) 183 0 (some 169)) 189 4 (-1)
def kj11c (M : ax_M) : ax_M := mUR (mUR (mAl (mUR (mAl (mUR (mAl (mUR (mMu M) 183 1 (some 184)) 32 4 4) 183 2 (some 189)) 32 2 2) 183 3 (some 190)) 32 162 162) 183 4 (some 191)) 183 0 (some 169)
def sj11c (M : ax_S) : ax_S := sUR (sUR (sAl (sUR (sAl (sUR (sAl (sUR (sMu M) 183 1 (some 184)) 32 4 4) 183 2 (some 189)) 32 2 2) 183 3 (some 190)) 32 162 162) 183 4 (some 191)) 183 0 (some 169)
def kj2 (M : ax_M) : ax_M := mUR (mUR (mUR (mUR (mAl M 32 400 400) 192 3 (some 193)) 192 0 (some 169)) 192 1 (some 179)) 192 2 (some 183)
def sj2 (M : ax_S) : ax_S := sUR (sUR (sUR (sUR (sAl M 32 400 400) 192 3 (some 193)) 192 0 (some 169)) 192 1 (some 179)) 192 2 (some 183)
def kj7b (M : ax_M) : ax_M := mUR (mAl (mUR (mAl (mUR (mAl (mUR (mAl (mUR (mAl (mUR (mAl (mUR (mAl (mUR (mAl M 36 400 400) 194 0 (some 195)) 32 400 400) 194 1 (some 196)) 36 16 16) 194 3 (some 197)) 32 16 16) 194 4 (some 198)) 32 16 16) 194 5 (some 199)) 32 16 16) 194 6 (some 200)) 32 16 16) 194 7 (some 201)) 32 16 16) 194 8 (some 202)
def sj7b (M : ax_S) : ax_S := sUR (sAl (sUR (sAl (sUR (sAl (sUR (sAl (sUR (sAl (sUR (sAl (sUR (sAl (sUR (sAl M 36 400 400) 194 0 (some 195)) 32 400 400) 194 1 (some 196)) 36 16 16) 194 3 (some 197)) 32 16 16) 194 4 (some 198)) 32 16 16) 194 5 (some 199)) 32 16 16) 194 6 (some 200)) 32 16 16) 194 7 (some 201)) 32 16 16) 194 8 (some 202)
def kj13a (M : ax_M) : ax_M := mUR (mAl (mUR (mAl (mUR (mAl (mUR (mAl (mUR (mAl (mUR (mAl (mUR (mAl (mUR (mAl (mUR (mAl (mUR (mAl (mUR (mAl (mUI (mUI M 208 0 7) 208 1 7) 32 81 81) 208 2 (some 209)) 32 17 17) 208 4 (some 210)) 32 17 17) 208 5 (some 211)) 32 17 17) 208 6 (some 212)) 32 17 17) 208 7 (some 213)) 32 17 17) 208 8 (some 214)) 32 17 17) 208 9 (some 215)) 32 17 17) 208 10 (some 216)) 32 800 800) 208 12 (some 217)) 32 800 800) 208 13 (some 218)) 32 800 800) 208 14 (some 219)
def sj13a (M : ax_S) : ax_S := sUR (sAl (sUR (sAl (sUR (sAl (sUR (sAl (sUR (sAl (sUR (sAl (sUR (sAl (sUR (sAl (sUR (sAl (sUR (sAl (sUR (sAl (sUI (sUI M 208 0 7) 208 1 7) 32 81 81) 208 2 (some 209)) 32 17 17) 208 4 (some 210)) 32 17 17) 208 5 (some 211)) 32 17 17) 208 6 (some 212)) 32 17 17) 208 7 (some 213)) 32 17 17) 208 8 (some 214)) 32 17 17) 208 9 (some 215)) 32 17 17) 208 10 (some 216)) 32 800 800) 208 12 (some 217)) 32 800 800) 208 13 (some 218)) 32 800 800) 208 14 (some 219)
def kj13b (M : ax_M) : ax_M := mUR (mAl (mUR (mAl (mUR (mAl (mUR (mAl (mUR (mAl (mUR (mAl (mUR (mAl (mUR (mAl (mUR (mAl (mUR (mAl (mUR (mAl (mUI (mUI M 220 0 7) 220 1 7) 32 81 81) 220 2 (some 221)) 32 17 17) 220 4 (some 222)) 32 17 17) 220 5 (some 223)) 32 17 17) 220 6 (some 224)) 32 17 17) 220 7 (some 225)) 32 17 17) 220 8 (some 226)) 32 17 17) 220 9 (some 227)) 32 17 17) 220 10 (some 228)) 32 800 800) 220 12 (some 229)) 32 800 800) 220 13 (some 230)) 32 800 800) 220 14 (some 231)
def sj13b (M : ax_S) : ax_S := sUR (sAl (sUR (sAl (sUR (sAl (sUR (sAl (sUR (sAl (sUR (sAl (sUR (sAl (sUR (sAl (sUR (sAl (sUR (sAl (sUR (sAl (sUI (sUI M 220 0 7) 220 1 7) 32 81 81) 220 2 (some 221)) 32 17 17) 220 4 (some 222)) 32 17 17) 220 5 (some 223)) 32 17 17) 220 6 (some 224)) 32 17 17) 220 7 (some 225)) 32 17 17) 220 8 (some 226)) 32 17 17) 220 9 (some 227)) 32 17 17) 220 10 (some 228)) 32 800 800) 220 12 (some 229)) 32 800 800) 220 13 (some 230)) 32 800 800) 220 14 (some 231)
def ke13a (M : ax_M) : ax_M := mAl (mUR (mAl (mUR (mAl (mUR (mAl (mUI (mUR (mAl M 32 2000 2000) 203 1 (some 204)) 203 3 (-1)) 32 402 402) 203 4 (some 205)) 32 402 402) 203 5 (some 206)) 32 402 402) 203 6 (some 207)) 11 15 15
def se13a (M : ax_S) : ax_S := sAl (sUR (sAl (sUR (sAl (sUR (sAl (sUI (sUR (sAl M 32 2000 2000) 203 1 (some 204)) 203 3 (-1)) 32 402 402) 203 4 (some 205)) 32 402 402) 203 5 (some 206)) 32 402 402) 203 6 (some 207)) 11 15 15
def ke14 (M : ax_M) : ax_M := mUR (mAl (mUR (mAl (mUR (mAl (mUR (mAl (mUR (mAl (mUR (mAl (mUR (mAl (mUR (mAl (mUR (mAl (mUR (mAl (mUR (mAl (mUR M 203 13 (some 220)) 32 800 800) 203 14 (some 232)) 32 81 81) 203 15 (some 233)) 32 81 81) 203 16 (some 234)) 32 81 81) 203 18 (some 235)) 32 81 81) 203 19 (some 236)) 32 81 81) 203 20 (some 237)) 32 81 81) 203 21 (some 238)) 32 82 82) 203 22 (some 239)) 32 81 81) 203 23 (some 240)) 34 81 81) 203 24 (some 241)) 32 6 6) 203 26 (some 242)
def se14 (M : ax_S) : ax_S := sUR (sAl (sUR (sAl (sUR (sAl (sUR (sAl (sUR (sAl (sUR (sAl (sUR (sAl (sUR (sAl (sUR (sAl (sUR (sAl (sUR (sAl (sUR M 203 13 (some 220)) 32 800 800) 203 14 (some 232)) 32 81 81) 203 15 (some 233)) 32 81 81) 203 16 (some 234)) 32 81 81) 203 18 (some 235)) 32 81 81) 203 19 (some 236)) 32 81 81) 203 20 (some 237)) 32 81 81) 203 21 (some 238)) 32 82 82) 203 22 (some 239)) 32 81 81) 203 23 (some 240)) 34 81 81) 203 24 (some 241)) 32 6 6) 203 26 (some 242)
def kz0 : ax_M := mAl ax_M0 10 12 12
def kz9 : ax_M := kj9 (mAl kz0 7 2 2)
def kz10 : ax_M := kj10 (mAl (mUR kz9 150 0 (some 151)) 8 4 4)
def kz7 : ax_M := kj7a (mAl (mUR kz10 150 1 (some 153)) 5 10 10)
def kz3' : ax_M := mAl (mUR kz7 150 10 (some 157)) 2 4 4
def kz3 : ax_M := kj3 kz3'
def kz6' : ax_M := mAl (mUR kz3 150 2 (some 166)) 4 6 6
def kz6 : ax_M := kj6 kz6'
def kzQ : ax_M := kj8 (mAl (mUR kz6 150 3 (some 167)) 6 10 10)
def ky4' (M : ax_M) : ax_M := mAl (mUR M 150 4 (some 169)) 3 6 6
def ky4 (M : ax_M) : ax_M := kj4 (ky4' M)
def ky1' (M : ax_M) : ax_M := mAl (mUR (ky4 M) 150 5 (some 176)) 0 5 5
def ky1 (M : ax_M) : ax_M := kj1 (ky1' M)
def ky11' (M : ax_M) : ax_M := mAl (mUR (ky1 M) 150 6 (some 179)) 9 7 7
def ky11 (M : ax_M) : ax_M := kj11 (ky11' M)
def ky2' (M : ax_M) : ax_M := mAl (mUR (ky11 M) 150 7 (some 183)) 1 5 5
def ky2 (M : ax_M) : ax_M := kj2 (ky2' M)
def ky7' (M : ax_M) : ax_M := mAl (mUR (ky2 M) 150 8 (some 192)) 5 10 10
def ky7 (M : ax_M) : ax_M := kj7b (ky7' M)
def ky12 (M : ax_M) : ax_M := mUI (mUR (ky7 M) 150 9 (some 194)) 150 11 (-1)
def kx0 (M : ax_M) : ax_M := mAl M 12 27 27
def kxa (M : ax_M) : ax_M := kj13a (ke13a (kx0 M))
def kxb (M : ax_M) : ax_M := kj13b (mAl (mUR (kxa M) 203 12 (some 208)) 11 15 15)
def kx14 (M : ax_M) : ax_M := ke14 (kxb M)
def sy4' (M : ax_S) : ax_S := sAl (sUR M 150 4 (some 169)) 3 6 6
def sy4 (M : ax_S) : ax_S := sj4 (sy4' M)
def sy1' (M : ax_S) : ax_S := sAl (sUR (sy4 M) 150 5 (some 176)) 0 5 5
def sy1 (M : ax_S) : ax_S := sj1 (sy1' M)
def sy11' (M : ax_S) : ax_S := sAl (sUR (sy1 M) 150 6 (some 179)) 9 7 7
def sy11 (M : ax_S) : ax_S := sj11 (sy11' M)
def sy2' (M : ax_S) : ax_S := sAl (sUR (sy11 M) 150 7 (some 183)) 1 5 5
def sy2 (M : ax_S) : ax_S := sj2 (sy2' M)
def sy7' (M : ax_S) : ax_S := sAl (sUR (sy2 M) 150 8 (some 192)) 5 10 10
def sy7 (M : ax_S) : ax_S := sj7b (sy7' M)
def sy12 (M : ax_S) : ax_S := sUI (sUR (sy7 M) 150 9 (some 194)) 150 11 (-1)
def sx0 (M : ax_S) : ax_S := sAl M 12 27 27
def sxa (M : ax_S) : ax_S := sj13a (se13a (sx0 M))
def sxb (M : ax_S) : ax_S := sj13b (sAl (sUR (sxa M) 203 12 (some 208)) 11 15 15)
def sx14 (M : ax_S) : ax_S := se14 (sxb M)
theorem fz_j9 {M : ax_M} (p : FZ M) : FZ (kj9 M) := (FZ.ur (FZ.al p 33 2000 2000) 151 0 (some 152))
theorem fz_j10 {M : ax_M} (p : FZ M) : FZ (kj10 M) := (FZ.ur (FZ.al (FZ.ur (FZ.al (FZ.ur (FZ.al p 36 401 401) 153 0 (some 154)) 32 401 401) 153 1 (some 155)) 32 401 401) 153 2 (some 156))
theorem fz_j7a {M : ax_M} (p : FZ M) : FZ (kj7a M) := (FZ.ur (FZ.al (FZ.ur (FZ.al (FZ.ur (FZ.al (FZ.ur (FZ.al (FZ.ur (FZ.al (FZ.ur (FZ.al (FZ.ur (FZ.al (FZ.ur (FZ.al p 36 400 400) 157 0 (some 158)) 32 400 400) 157 1 (some 159)) 36 16 16) 157 3 (some 160)) 32 16 16) 157 4 (some 161)) 32 16 16) 157 5 (some 162)) 32 16 16) 157 6 (some 163)) 32 16 16) 157 7 (some 164)) 32 16 16) 157 8 (some 165))
theorem fz_j3 {M : ax_M} (p : FZ M) : FZ (kj3 M) := (FZ.ur (FZ.ur p 166 0 (some 153)) 166 1 (some 157))
theorem fz_j6 {M : ax_M} (p : FZ M) : FZ (kj6 M) := (FZ.ur (FZ.ur (FZ.al p 32 81 81) 167 1 (some 168)) 167 0 (some 153))
theorem fz_j8 {M : ax_M} (p : FZ M) : FZ (kj8 M) := (FZ.ur (FZ.al (FZ.ur (FZ.al (FZ.ur (FZ.al (FZ.ur (FZ.al (FZ.ur (FZ.al (FZ.ur (FZ.al p 32 81 81) 169 2 (some 170)) 32 486 486) 169 3 (some 171)) 32 81 81) 169 4 (some 172)) 32 81 81) 169 5 (some 173)) 32 2 2) 169 6 (some 174)) 32 81 81) 169 7 (some 175))
theorem fz_zQ : FZ kzQ := by
  have p0 : FZ kz0 := FZ.al (fun _ _ => rfl) 10 12 12
  have p9 : FZ kz9 := fz_j9 (p0.al 7 2 2)
  have p10 : FZ kz10 := fz_j10 ((p9.ur 150 0 _).al 8 4 4)
  have p7 : FZ kz7 := fz_j7a ((p10.ur 150 1 _).al 5 10 10)
  have p3 : FZ kz3 := fz_j3 ((p7.ur 150 10 _).al 2 4 4)
  have p6 : FZ kz6 := fz_j6 ((p3.ur 150 2 _).al 4 6 6)
  exact fz_j8 ((p6.ur 150 3 _).al 6 10 10)
theorem fi_j4 {c : Nat} {S : Nat → Nat → Prop} {A M : ax_M} (p : Fi c S A M) : Fi c S A (kj4 M) := (Fi.ur (Fi.ur (Fi.al (Fi.ur (Fi.al p 32 81 81) 176 1 (some 177)) 32 81 81) 176 2 (some 178)) 176 0 (some 169))
theorem fi_j1 {c : Nat} {S : Nat → Nat → Prop} {A M : ax_M} (p : Fi c S A M) (h179 : S 179 4 ∨ 150 + c ≤ 179) : Fi c S A (kj1 M) := (Fi.ur (Fi.ui (Fi.ur (Fi.al (Fi.ur (Fi.al (Fi.ur (Fi.al p 32 2 2) 179 1 (some 180)) 32 2 2) 179 2 (some 181)) 32 2 2) 179 3 (some 182)) 179 4 (-1) h179) 179 0 (some 169))
theorem fi_j11 {c : Nat} {S : Nat → Nat → Prop} {A M : ax_M} (p : Fi c S A M) (h189 : 150 + c ≤ 189) : Fi c S A (kj11 M) := (Fi.fi (Fi.ur (Fi.ur (Fi.al (Fi.ur (Fi.al (Fi.ur (Fi.al (Fi.ur (Fi.mu p) 183 1 (some 184)) 32 4 4) 183 2 (some 189)) 32 2 2) 183 3 (some 190)) 32 162 162) 183 4 (some 191)) 183 0 (some 169)) 189 4 (-1) h189)
theorem fi_j2 {c : Nat} {S : Nat → Nat → Prop} {A M : ax_M} (p : Fi c S A M) : Fi c S A (kj2 M) := (Fi.ur (Fi.ur (Fi.ur (Fi.ur (Fi.al p 32 400 400) 192 3 (some 193)) 192 0 (some 169)) 192 1 (some 179)) 192 2 (some 183))
theorem fi_j7b {c : Nat} {S : Nat → Nat → Prop} {A M : ax_M} (p : Fi c S A M) : Fi c S A (kj7b M) := (Fi.ur (Fi.al (Fi.ur (Fi.al (Fi.ur (Fi.al (Fi.ur (Fi.al (Fi.ur (Fi.al (Fi.ur (Fi.al (Fi.ur (Fi.al (Fi.ur (Fi.al p 36 400 400) 194 0 (some 195)) 32 400 400) 194 1 (some 196)) 36 16 16) 194 3 (some 197)) 32 16 16) 194 4 (some 198)) 32 16 16) 194 5 (some 199)) 32 16 16) 194 6 (some 200)) 32 16 16) 194 7 (some 201)) 32 16 16) 194 8 (some 202))
theorem fi_j13a {c : Nat} {S : Nat → Nat → Prop} {A M : ax_M} (p : Fi c S A M) (h0 : S 208 0 ∨ 150 + c ≤ 208) (h1 : S 208 1 ∨ 150 + c ≤ 208) : Fi c S A (kj13a M) := (Fi.ur (Fi.al (Fi.ur (Fi.al (Fi.ur (Fi.al (Fi.ur (Fi.al (Fi.ur (Fi.al (Fi.ur (Fi.al (Fi.ur (Fi.al (Fi.ur (Fi.al (Fi.ur (Fi.al (Fi.ur (Fi.al (Fi.ur (Fi.al (Fi.ui (Fi.ui p 208 0 7 h0) 208 1 7 h1) 32 81 81) 208 2 (some 209)) 32 17 17) 208 4 (some 210)) 32 17 17) 208 5 (some 211)) 32 17 17) 208 6 (some 212)) 32 17 17) 208 7 (some 213)) 32 17 17) 208 8 (some 214)) 32 17 17) 208 9 (some 215)) 32 17 17) 208 10 (some 216)) 32 800 800) 208 12 (some 217)) 32 800 800) 208 13 (some 218)) 32 800 800) 208 14 (some 219))
theorem fi_j13b {c : Nat} {S : Nat → Nat → Prop} {A M : ax_M} (p : Fi c S A M) (h0 : S 220 0 ∨ 150 + c ≤ 220) (h1 : S 220 1 ∨ 150 + c ≤ 220) : Fi c S A (kj13b M) := (Fi.ur (Fi.al (Fi.ur (Fi.al (Fi.ur (Fi.al (Fi.ur (Fi.al (Fi.ur (Fi.al (Fi.ur (Fi.al (Fi.ur (Fi.al (Fi.ur (Fi.al (Fi.ur (Fi.al (Fi.ur (Fi.al (Fi.ur (Fi.al (Fi.ui (Fi.ui p 220 0 7 h0) 220 1 7 h1) 32 81 81) 220 2 (some 221)) 32 17 17) 220 4 (some 222)) 32 17 17) 220 5 (some 223)) 32 17 17) 220 6 (some 224)) 32 17 17) 220 7 (some 225)) 32 17 17) 220 8 (some 226)) 32 17 17) 220 9 (some 227)) 32 17 17) 220 10 (some 228)) 32 800 800) 220 12 (some 229)) 32 800 800) 220 13 (some 230)) 32 800 800) 220 14 (some 231))
theorem fi_e13a {c : Nat} {S : Nat → Nat → Prop} {A M : ax_M} (p : Fi c S A M) (h3 : S 203 3 ∨ 150 + c ≤ 203) : Fi c S A (ke13a M) := (Fi.al (Fi.ur (Fi.al (Fi.ur (Fi.al (Fi.ur (Fi.al (Fi.ui (Fi.ur (Fi.al p 32 2000 2000) 203 1 (some 204)) 203 3 (-1) h3) 32 402 402) 203 4 (some 205)) 32 402 402) 203 5 (some 206)) 32 402 402) 203 6 (some 207)) 11 15 15)
theorem fi_e14 {c : Nat} {S : Nat → Nat → Prop} {A M : ax_M} (p : Fi c S A M) : Fi c S A (ke14 M) := (Fi.ur (Fi.al (Fi.ur (Fi.al (Fi.ur (Fi.al (Fi.ur (Fi.al (Fi.ur (Fi.al (Fi.ur (Fi.al (Fi.ur (Fi.al (Fi.ur (Fi.al (Fi.ur (Fi.al (Fi.ur (Fi.al (Fi.ur (Fi.al (Fi.ur p 203 13 (some 220)) 32 800 800) 203 14 (some 232)) 32 81 81) 203 15 (some 233)) 32 81 81) 203 16 (some 234)) 32 81 81) 203 18 (some 235)) 32 81 81) 203 19 (some 236)) 32 81 81) 203 20 (some 237)) 32 81 81) 203 21 (some 238)) 32 82 82) 203 22 (some 239)) 32 81 81) 203 23 (some 240)) 34 81 81) 203 24 (some 241)) 32 6 6) 203 26 (some 242))
section INI
variable {B : ax_M}
theorem fi_y7 {c : Nat} {S : Nat → Nat → Prop} {A M : ax_M} (p : Fi c S A (ky11 M)) (h : S 150 11 ∨ 150 + c ≤ 150) : Fi c S A (ky12 M) := ((fi_j7b (((fi_j2 ((p.ur 150 7 _).al 1 5 5)).ur 150 8 _).al 5 10 10)).ur 150 9 _).ui 150 11 (-1) h
theorem fi_y1 {c : Nat} {S : Nat → Nat → Prop} {A M : ax_M} (p : Fi c S A (ky1 M)) (h : S 150 11 ∨ 150 + c ≤ 150) (h189 : 150 + c ≤ 189) : Fi c S A (ky12 M) := fi_y7 (fi_j11 ((p.ur 150 6 _).al 9 7 7) h189) h
theorem fi_x14 {c : Nat} {S : Nat → Nat → Prop} {A M : ax_M} (p : Fi c S A (ke13a (kx0 M))) (h0 : S 208 0 ∨ 150 + c ≤ 208) (h1 : S 208 1 ∨ 150 + c ≤ 208) (h2 : S 220 0 ∨ 150 + c ≤ 220) (h3 : S 220 1 ∨ 150 + c ≤ 220) : Fi c S A (kx14 M) := fi_e14 (fi_j13b (((fi_j13a p h0 h1).ur 203 12 _).al 11 15 15) h2 h3)
/-- what the class and the model are made of, as the memory's second half tells -/
theorem init_12 (hB : fX8_begin kzQ 7 7 = some B) (h2 : B.2 = kzQ.2) : fX12_init (mAl ax_M0 10 12 12) = some (ky12 B) ∧ (ky12 B).2 = sy12 kzQ.2 := by
  have e4' : (ky4' B).2 = sy4' kzQ.2 := by rw [← h2]; rfl
  have e4 : (ky4 B).2 = sy4 kzQ.2 := by rw [← h2]; rfl
  have e1' : (ky1' B).2 = sy1' kzQ.2 := by rw [← h2]; rfl
  have e1 : (ky1 B).2 = sy1 kzQ.2 := by rw [← h2]; rfl
  have e11' : (ky11' B).2 = sy11' kzQ.2 := by rw [← h2]; rfl
  have e11c : (kj11c (ky11' B)).2 = sj11c (sy11' kzQ.2) := by rw [← h2]; rfl
  have e11 : (ky11 B).2 = sy11 kzQ.2 := by rw [← h2]; rfl
  have e2' : (ky2' B).2 = sy2' kzQ.2 := by rw [← h2]; rfl
  have e2 : (ky2 B).2 = sy2 kzQ.2 := by rw [← h2]; rfl
  have e7 : (ky7 B).2 = sy7 kzQ.2 := by rw [← h2]; rfl
  refine ⟨?_, by rw [← h2]; rfl⟩
  have r8 : fX8_init (mAl (mUR kz6 150 3 (some 167)) 6 10 10) = some B := by
    have hf : ax_frz kzQ 169 176 = true := by decide +kernel
    show (if ax_frz kzQ 169 176 = true then (bd1 (fX8_begin kzQ 7 7) fun M103 => (some M103)) else none) = some B
    rw [if_pos hf, hB, bd1_s]
  have q4 : mR (ky4' B) 150 4 = some 169 := by rw [S_mR e4']; decide +kernel
  have q1 : mR (ky1' B) 150 4 = some 169 := by rw [S_mR e1']; decide +kernel
  have q11 : mR (ky11' B) 150 4 = some 169 := by rw [S_mR e11']; decide +kernel
  have q24 : mR (ky2' B) 150 4 = some 169 := by rw [S_mR e2']; decide +kernel
  have q26 : mR (ky2' B) 150 6 = some 179 := by rw [S_mR e2']; decide +kernel
  have q27 : mR (ky2' B) 150 7 = some 183 := by rw [S_mR e2']; decide +kernel
  have r11 : fX11_init (ky11' B) = some (ky11 B) := by
    show (if mR (kj11c (ky11' B)) 183 2 = some 189 then some (ky11 B) else none) = some (ky11 B)
    rw [if_pos (by rw [S_mR e11c]; decide +kernel)]
  unfold fX12_init
  rw [show fX9_init (mAl (mAl ax_M0 10 12 12) 7 2 2) = some kz9 from rfl, bd1_s, if_pos (show mSz kz9 = 3 by decide +kernel),
    show fX10_init (mAl (mUR kz9 150 0 (some 151)) 8 4 4) = some kz10 from rfl, bd1_s, if_pos (show mSz kz10 = 7 by decide +kernel),
    show fX7_init_a (mAl (mUR kz10 150 1 (some 153)) 5 10 10) = some kz7 from rfl, bd1_s, if_pos (show mSz kz7 = 16 by decide +kernel),
    if_pos (show mR (mAl (mUR kz7 150 10 (some 157)) 2 4 4) 150 1 = some 153 by decide +kernel), if_pos (show mR (mAl (mUR kz7 150 10 (some 157)) 2 4 4) 150 10 = some 157 by decide +kernel),
    show fX3_init (mAl (mUR kz7 150 10 (some 157)) 2 4 4) = some kz3 from rfl, bd1_s, if_pos (show mSz kz3 = 17 by decide +kernel),
    if_pos (show mR (mAl (mUR kz3 150 2 (some 166)) 4 6 6) 150 1 = some 153 by decide +kernel),
    show fX6_init (mAl (mUR kz3 150 2 (some 166)) 4 6 6) = some kz6 from rfl, bd1_s, if_pos (show mSz kz6 = 19 by decide +kernel),
    r8, bd1_s, if_pos (show mSz B = 26 by rw [S_sz h2]; decide +kernel),
    if_pos (show mR (mAl (mUR B 150 4 (some 169)) 3 6 6) 150 4 = some 169 from q4),
    show fX4_init (mAl (mUR B 150 4 (some 169)) 3 6 6) = some (ky4 B) from rfl, bd1_s, if_pos (show mSz (ky4 B) = 29 by rw [S_sz e4]; decide +kernel),
    if_pos (show mR (mAl (mUR (ky4 B) 150 5 (some 176)) 0 5 5) 150 4 = some 169 from q1),
    show fX1_init (mAl (mUR (ky4 B) 150 5 (some 176)) 0 5 5) = some (ky1 B) from rfl, bd1_s, if_pos (show mSz (ky1 B) = 33 by rw [S_sz e1]; decide +kernel),
    if_pos (show mR (mAl (mUR (ky1 B) 150 6 (some 179)) 9 7 7) 150 4 = some 169 from q11),
    show fX11_init (mAl (mUR (ky1 B) 150 6 (some 179)) 9 7 7) = some (ky11 B) from r11, bd1_s, if_pos (show mSz (ky11 B) = 42 by rw [S_sz e11]; decide +kernel),
    if_pos (show mR (mAl (mUR (ky11 B) 150 7 (some 183)) 1 5 5) 150 4 = some 169 from q24), if_pos (show mR (mAl (mUR (ky11 B) 150 7 (some 183)) 1 5 5) 150 6 = some 179 from q26), if_pos (show mR (mAl (mUR (ky11 B) 150 7 (some 183)) 1 5 5) 150 7 = some 183 from q27),
    show fX2_init (mAl (mUR (ky11 B) 150 7 (some 183)) 1 5 5) = some (ky2 B) from rfl, bd1_s, if_pos (show mSz (ky2 B) = 44 by rw [S_sz e2]; decide +kernel),
    show fX7_init_b (mAl (mUR (ky2 B) 150 8 (some 192)) 5 10 10) = some (ky7 B) from rfl, bd1_s, if_pos (show mSz (ky7 B) = 53 by rw [S_sz e7]; decide +kernel)]
  rfl
theorem Q_fill (M : ax_M) : ∃ M', lp (fun s => fX14_init_b165 s.2 s.1) lpN (0, M) = some M' ∧ Fr (fun k _ => k = 233) M M' ∧ ∀ j : Int, 0 ≤ j → j < 81 → mI M' 233 j.toNat = -1 := by
  refine lpn 81 (by omega) (fun i s => s.1 = (i : Int) ∧ Fr (fun k _ => k = 233) M s.2 ∧ ∀ j : Int, 0 ≤ j → j < i → mI s.2 233 j.toNat = -1) _ _ ?_ ?_ ?_
  · exact ⟨rfl, Fr.refl _ _, fun j j0 kj1 => by have kj1 : j < ((0 : Nat) : Int) := kj1; omega⟩
  · rintro i ⟨v, N⟩ hi ⟨hv, f, p⟩
    have hv : v = (i : Int) := hv
    subst hv
    have p : ∀ j : Int, 0 ≤ j → j < i → mI N 233 j.toNat = -1 := p
    right
    refine ⟨((i : Int) + 1, mUI N 233 (i : Int).toNat (-1)), ?_, rfl, Fr.up (B := N) f rfl, fun j j0 kj1 => ?_⟩
    · show fX14_init_b165 N (i : Int) = _
      unfold fX14_init_b165
      rw [if_pos (by omega), if_pos (by omega)]
    · have kj1 : j < ((i + 1 : Nat) : Int) := kj1
      show mI (mUI N 233 (i : Int).toNat (-1)) 233 j.toNat = -1
      rw [mI_Z _ _ _ (by omega) j0]
      by_cases ej : j = i
      · rw [if_pos ej]
      · rw [if_neg ej]; exact p j j0 (by omega)
  · rintro ⟨v, N⟩ ⟨hv, f, p⟩
    have hv : v = ((81 : Nat) : Int) := hv
    subst hv
    refine ⟨N, ?_, f, fun j j0 kj1 => p j j0 kj1⟩
    show fX14_init_b165 N ((81 : Nat) : Int) = _
    unfold fX14_init_b165
    rw [if_neg (by omega)]
theorem init_14 {C : ax_M} {s : ax_S} (hC : C.2 = s) (c1 : (sxa s).2.2.1 = 70) (c2 : (sxb s).2.2.1 = 82) (c3 : (sx14 s).1 203 12 = some 208) (c4 : sfrz (sx14 s) 203 243 = true) : ∃ D, fX14_init (mAl C 12 27 27) = some D ∧ D.2 = sx14 s ∧ Fr (fun k j => (k = 208 ∧ (j = 0 ∨ j = 1 ∨ j = 3 ∨ j = 11)) ∨ k = 209 ∨ k = 233) (kx14 C) D ∧ (mI D 208 0 = 7 ∧ mI D 208 1 = 7 ∧ mI D 208 3 = 0) ∧ ∀ j : Int, 0 ≤ j → j < 81 → mI D 233 j.toNat = -1 := by
  have ea : (kxa C).2 = sxa s := by rw [← hC]; rfl
  have eb : (kxb C).2 = sxb s := by rw [← hC]; rfl
  have h14 : (kx14 C).2 = sx14 s := by rw [← hC]; rfl
  obtain ⟨D1, r1, f1, ⟨g0, g1, g3, _⟩, _⟩ := Q_fresh (kx14 C) 208
  obtain ⟨D, r2, f2, g⟩ := Q_fill D1
  refine ⟨D, ?_, by rw [f2.1, f1.1, h14], (f1.mono (fun k j z => by unfold sBg at z; omega)).trans (f2.mono (fun k j z => by omega)), ⟨?_, ?_, ?_⟩, g⟩
  · have red : fX14_init (mAl C 12 27 27) = (bd1 (some (kxa C)) fun M102 => (if mSz M102 = 70 then (bd1 (fX13_init_b (mAl (mUR M102 203 12 (some 208)) 11 15 15)) fun M105 => (if mSz M105 = 82 then (if mR (ke14 M105) 203 12 = some 208 then (if ax_frz (ke14 M105) 203 243 = true then (bd1 (fX13_begin (ke14 M105) 208) fun M110 => (bd1 (lp (fun s => fX14_init_b165 s.2 s.1) lpN (0, M110)) fun t114 => (some t114))) else none) else none) else none)) else none)) := rfl
    have p3 : mR (kx14 C) 203 12 = some 208 := by rw [S_mR h14]; exact c3
    have p4 : ax_frz (kx14 C) 203 243 = true := by rw [S_frz h14]; exact c4
    rw [red, bd1_s, if_pos (by rw [S_sz ea]; exact c1), show fX13_init_b (mAl (mUR (kxa C) 203 12 (some 208)) 11 15 15) = some (kxb C) from rfl, bd1_s, if_pos (by rw [S_sz eb]; exact c2), if_pos (show mR (ke14 (kxb C)) 203 12 = some 208 from p3), if_pos (show ax_frz (ke14 (kxb C)) 203 243 = true from p4), show fX13_begin (ke14 (kxb C)) 208 = some D1 from r1, bd1_s, r2, bd1_s]
  · rw [f2.2 208 0 (by omega)]; exact g0
  · rw [f2.2 208 1 (by omega)]; exact g1
  · rw [f2.2 208 3 (by omega)]; exact g3
end INI
