/-! part C: the model's bridges -/
def gwhole (w h : Int) (o : Int → Int) (c e : Int) : Prop := ∃ s : Int, 0 ≤ s ∧ s < 6 ∧ gfar w h c s = e ∧ gst w h o c s = 1
theorem C_isWhole {M : ax_M} {w h : Int} {o : Int → Int} (P : Pd M w h o) {c e : Int} (c0 : 0 ≤ c) (c1 : c < w * h) (e0 : 0 ≤ e) : fX1_isWhole M c e = some (gat (gwhole w h o c e)) := by
  have key : ∃ r, lp (fun q => fX1_isWhole_b2 M c e q) lpN 0 = some r ∧ ((∃ s : Int, r = .inl s ∧ 0 ≤ s ∧ s < 6 ∧ gfar w h c s = e) ∨ (r = .inr () ∧ ∀ s : Int, 0 ≤ s → s < 6 → gfar w h c s ≠ e)) := by
    refine lpn 6 (by omega) (fun i q => q = (i : Int) ∧ ∀ s : Int, 0 ≤ s → s < (i : Int) → gfar w h c s ≠ e) _ _ ⟨rfl, fun s a b => by omega⟩ ?_ ?_
    · rintro i x hi ⟨hx, h1⟩
      subst hx
      show (∃ r, fX1_isWhole_b2 M c e (i : Int) = some (.inr r) ∧ _) ∨ (∃ s', fX1_isWhole_b2 M c e (i : Int) = some (.inl s') ∧ _)
      unfold fX1_isWhole_b2
      rw [if_pos (by omega), C_farEnd P (by omega) (by omega)]
      by_cases z : gfar w h c (i : Int) = e
      · rw [if_pos z, if_neg (by omega)]
        exact Or.inl ⟨_, rfl, Or.inl ⟨(i : Int), rfl, by omega, by omega, z⟩⟩
      · rw [if_neg z]
        refine Or.inr ⟨_, rfl, by show (i : Int) + 1 = ((i + 1 : Nat) : Int); omega, fun s a b => ?_⟩
        by_cases q : s = (i : Int)
        · rw [q]; exact z
        · exact h1 s a (by omega)
    · rintro x ⟨hx, h1⟩
      subst hx
      refine ⟨.inr (), ?_, Or.inr ⟨rfl, h1⟩⟩
      show fX1_isWhole_b2 M c e ((6 : Nat) : Int) = _
      unfold fX1_isWhole_b2
      rw [if_neg (by omega)]
  obtain ⟨r, er, q⟩ := key
  unfold fX1_isWhole
  rw [er]
  rcases q with ⟨s, rfl, s0, s1, sf⟩ | ⟨rfl, q⟩
  · show (if fX1_stateAt M c s = 1 then some (1 : Int) else some 0) = _
    rw [C_stateAt P s0 s1]
    by_cases g : gst w h o c s = 1
    · rw [if_pos g, gat_t ⟨s, s0, s1, sf, g⟩]
    · rw [if_neg g, gat_f]
      rintro ⟨t, t0, t1, tf, tg⟩
      have : s = t := gfar_1 P.k c0 c1 s0 s1 t0 t1 (sf.trans tf.symm) (by omega)
      rw [this] at g
      exact g tg
  · rw [gat_f (fun ⟨s, s0, s1, sf, _⟩ => q s s0 s1 sf)]
    rfl
section MBR
variable {M : ax_M} {w h : Int} {o : Int → Int} {p : Int}
theorem Q_btw_b (P : Md M w h o) {c e s : Int} (x3 : Int) (c0 : 0 ≤ c) (c1 : c < w * h) (e0 : 0 ≤ e) (s0 : 0 ≤ s) (s1 : s < 6) : fX14_between_b3 M c e x3 s = if gfar w h c s = e then some (.inr (.inl (gbs w h c s, gbs w h c (gnx s)))) else some (.inl (s + 1)) := by
  obtain ⟨x0, x1, y0, y1, _⟩ := gXY P.1 c0 c1
  obtain ⟨k1, k2, k3, k4⟩ := P.1
  obtain ⟨n0, n1, n2⟩ := gnx_b s0 s1
  obtain ⟨f1, f2⟩ := gfar_x P.1 c0 c1 s0 s1
  obtain ⟨d1, d2, d3, d4⟩ := gdb s
  obtain ⟨d5, d6, d7, d8⟩ := gdb (gnx s)
  have em : Int.tmod (s + 1) 6 = gnx s := by rw [(gtm (by omega)).1, n2]
  unfold fX14_between_b3
  rw [if_pos s1, Q_bs P c0 c1 s0 s1, bd1_s, em, Q_bs P c0 c1 n0 n1, bd1_s, P.2.2.1, if_pos (show ¬ w = 0 by omega), if_pos ⟨s0, s1⟩, if_pos ⟨n0, n1⟩, (gtm c0).1, (gtm c0).2, (gA3 s0 s1).1, (gA3 s0 s1).2, (gA3 n0 n1).1, (gA3 n0 n1).2, wr_eq (x := c / w) (by omega) (by omega), wr_eq (x := c % w + gdx s) (by omega) (by omega), wr_eq (x := c / w + gdy s) (by omega) (by omega), wr_eq (x := c % w + gdx s + gdx (gnx s)) (by omega) (by omega), wr_eq (x := c / w + gdy s + gdy (gnx s)) (by omega) (by omega), Q_on P]
  by_cases z : 0 ≤ c % w + gdx s + gdx (gnx s) ∧ c % w + gdx s + gdx (gnx s) < w ∧ 0 ≤ c / w + gdy s + gdy (gnx s) ∧ c / w + gdy s + gdy (gnx s) < h
  · obtain ⟨g1, g2⟩ := f2 z
    rw [if_neg g1, if_neg g2, if_pos z, if_neg (by omega), Q_at P z, ← f1]
  · have e1 : gfar w h c s = -1 := by rw [f1, gC_off z]
    rw [if_neg z, if_pos rfl, if_neg (show ¬ gfar w h c s = e by omega)]
    by_cases g1 : gbs w h c s = -1
    · rw [if_pos g1]
    · rw [if_neg g1]
      by_cases g2 : gbs w h c (gnx s) = -1
      · rw [if_pos g2]
      · rw [if_neg g2]
theorem Q_btw (P : Md M w h o) {c e : Int} (x3 : Int) (c0 : 0 ≤ c) (c1 : c < w * h) (e0 : 0 ≤ e) : ((∀ s : Int, 0 ≤ s → s < 6 → gfar w h c s ≠ e) → fX14_between M c e x3 = some (-1)) ∧ (∀ s : Int, 0 ≤ s → s < 6 → gfar w h c s = e → fX14_between M c e x3 = some (if x3 = 0 then gbs w h c s else gbs w h c (gnx s))) := by
  have key : ∃ r, lp (fun q => fX14_between_b3 M c e x3 q) lpN 0 = some r ∧ ((∃ s : Int, r = .inl (gbs w h c s, gbs w h c (gnx s)) ∧ 0 ≤ s ∧ s < 6 ∧ gfar w h c s = e) ∨ (r = .inr () ∧ ∀ s : Int, 0 ≤ s → s < 6 → gfar w h c s ≠ e)) := by
    refine lpn 6 (by omega) (fun i q => q = (i : Int) ∧ ∀ s : Int, 0 ≤ s → s < (i : Int) → gfar w h c s ≠ e) _ _ ⟨rfl, fun s a b => by omega⟩ ?_ ?_
    · rintro i x hi ⟨hx, h1⟩
      subst hx
      show (∃ r, fX14_between_b3 M c e x3 (i : Int) = some (.inr r) ∧ _) ∨ (∃ s', fX14_between_b3 M c e x3 (i : Int) = some (.inl s') ∧ _)
      rw [Q_btw_b P x3 c0 c1 e0 (by omega) (by omega)]
      by_cases z : gfar w h c (i : Int) = e
      · rw [if_pos z]
        exact Or.inl ⟨_, rfl, Or.inl ⟨(i : Int), rfl, by omega, by omega, z⟩⟩
      · rw [if_neg z]
        refine Or.inr ⟨_, rfl, by show (i : Int) + 1 = ((i + 1 : Nat) : Int); omega, fun s a b => ?_⟩
        by_cases q : s = (i : Int)
        · rw [q]; exact z
        · exact h1 s a (by omega)
    · rintro x ⟨hx, h1⟩
      subst hx
      refine ⟨.inr (), ?_, Or.inr ⟨rfl, h1⟩⟩
      show fX14_between_b3 M c e x3 ((6 : Nat) : Int) = _
      unfold fX14_between_b3
      rw [if_neg (by omega)]
  obtain ⟨r, er, q⟩ := key
  unfold fX14_between
  rw [er]
  rcases q with ⟨s, rfl, s0, s1, sf⟩ | ⟨rfl, q⟩
  · refine ⟨fun z => absurd sf (z s s0 s1), fun t t0 t1 tf => ?_⟩
    have : s = t := gfar_1 P.1 c0 c1 s0 s1 t0 t1 (sf.trans tf.symm) (by omega)
    rw [← this]
    show (if x3 = 0 then some (gbs w h c s) else some (gbs w h c (gnx s))) = _
    by_cases y : x3 = 0
    · rw [if_pos y, if_pos y]
    · rw [if_neg y, if_neg y]
  · exact ⟨fun _ => rfl, fun t t0 t1 tf => absurd tf (q t t0 t1)⟩
theorem Q_bridge (P : Md M w h o) (hp : p = 0 ∨ p = 1) {c e : Int} (c0 : 0 ≤ c) (c1 : c < w * h) (e0 : 0 ≤ e) (e1 : e < w * h) : ∃ v, fX14_bridge M c e p = some v ∧ ((∀ s : Int, 0 ≤ s → s < 6 → gfar w h c s ≠ e) → v = 0) ∧ (∀ s : Int, 0 ≤ s → s < 6 → gfar w h c s = e → v = if o c = p + 1 then gst w h o c s else 0) := by
  have hN := gOk_le P.1
  have c2 : 0 ≤ c ∧ c < 81 := by omega
  have e2 : 0 ≤ e ∧ e < 81 := by omega
  unfold fX14_bridge
  rw [if_pos c2, P.2.2.2.2 c c0 c2.2]
  by_cases h1 : o c = p + 1
  · rw [if_pos (by omega), if_pos e2, P.2.2.2.2 e e0 e2.2]
    by_cases h2 : o e = p + 1
    · rw [if_pos (by omega)]
      by_cases ex : ∃ s : Int, 0 ≤ s ∧ s < 6 ∧ gfar w h c s = e
      · obtain ⟨s, s0, s1, sf⟩ := ex
        have a := (Q_btw P 0 c0 c1 e0).2 s s0 s1 sf
        have b := (Q_btw P 1 c0 c1 e0).2 s s0 s1 sf
        rw [if_pos rfl] at a
        rw [if_neg (by omega)] at b
        have fv := gfar_v P.1 c0 c1 s0 s1
        have r1 := gbs_range P.1 c s
        have r2 := gbs_range P.1 c (gnx s)
        have g1 : ¬ gbs w h c s = -1 := by omega
        have q1 : 0 ≤ gbs w h c s ∧ gbs w h c s < 81 := by omega
        have q2 : 0 ≤ gbs w h c (gnx s) ∧ gbs w h c (gnx s) < 81 := by omega
        have o1 := P.2.1.2 (gbs w h c s)
        have o2 := P.2.1.2 (gbs w h c (gnx s))
        rw [a, bd1_s, if_neg g1, b, bd1_s, if_pos q1, if_pos q2, P.2.2.2.2 _ q1.1 q1.2, P.2.2.2.2 _ q2.1 q2.2, wr_eq (x := 1 - p) (by omega) (by omega)]
        have gs : gst w h o c s = (if o (gbs w h c s) = o c then 0 else if o (gbs w h c (gnx s)) = o c then 0 else if o (gbs w h c s) = 0 then (if o (gbs w h c (gnx s)) = 0 then 1 else 2) else (if o (gbs w h c (gnx s)) = 0 then 2 else 0)) := by
          unfold gst
          rw [if_neg (show ¬ o c = 0 by omega), sf, if_neg (show ¬ e = -1 by omega), if_pos (show o e = o c by omega)]
        have fin : ∀ v, v = gst w h o c s → ∃ v', some v = some v' ∧ ((∀ s : Int, 0 ≤ s → s < 6 → gfar w h c s ≠ e) → v' = 0) ∧ (∀ s : Int, 0 ≤ s → s < 6 → gfar w h c s = e → v' = if o c = p + 1 then gst w h o c s else 0) := by
          intro v hv
          refine ⟨v, rfl, fun z => absurd sf (z s s0 s1), fun t t0 t1 tf => ?_⟩
          have : s = t := gfar_1 P.1 c0 c1 s0 s1 t0 t1 (sf.trans tf.symm) (by omega)
          rw [← this, if_pos h1]
          exact hv
        rw [h1] at gs
        clear a b
        by_cases u1 : o (gbs w h c s) = 0
        · rw [if_pos (by omega)]
          by_cases u2 : o (gbs w h c (gnx s)) = 0
          · rw [if_pos (by omega)]
            exact fin 1 (by rw [gs, if_neg (by omega), if_neg (by omega), if_pos u1, if_pos u2])
          · rw [if_neg (by omega)]
            by_cases u3 : o (gbs w h c (gnx s)) = p + 1
            · rw [if_neg (by omega)]
              exact fin 0 (by rw [gs, if_neg (by omega), if_pos u3])
            · rw [if_pos (by omega)]
              exact fin 2 (by rw [gs, if_neg (by omega), if_neg u3, if_pos u1, if_neg u2])
        · rw [if_neg (by omega), if_pos q2]
          by_cases u2 : o (gbs w h c (gnx s)) = 0
          · rw [if_pos (by omega)]
            by_cases u3 : o (gbs w h c s) = p + 1
            · rw [if_neg (by omega)]
              exact fin 0 (by rw [gs, if_pos u3])
            · rw [if_pos (by omega)]
              exact fin 2 (by rw [gs, if_neg u3, if_neg (by omega), if_neg u1, if_pos u2])
          · rw [if_neg (by omega)]
            refine fin 0 ?_
            rw [gs]
            by_cases u3 : o (gbs w h c s) = p + 1
            · rw [if_pos u3]
            · rw [if_neg u3]
              by_cases u4 : o (gbs w h c (gnx s)) = p + 1
              · rw [if_pos u4]
              · rw [if_neg u4, if_neg u1, if_neg u2]
      · have no : ∀ s : Int, 0 ≤ s → s < 6 → gfar w h c s ≠ e := fun s s0 s1 sf => ex ⟨s, s0, s1, sf⟩
        rw [(Q_btw P 0 c0 c1 e0).1 no, bd1_s, if_pos rfl]
        exact ⟨0, rfl, fun _ => rfl, fun s s0 s1 sf => absurd sf (no s s0 s1)⟩
    · rw [if_neg (by omega)]
      refine ⟨0, rfl, fun _ => rfl, fun s s0 s1 sf => ?_⟩
      unfold gst
      rw [if_pos h1, if_neg (show ¬ o c = 0 by omega), sf, if_neg (show ¬ e = -1 by omega), if_neg (show ¬ o e = o c by omega)]
  · rw [if_neg (by omega)]
    exact ⟨0, rfl, fun _ => rfl, fun s s0 s1 sf => by rw [if_neg h1]⟩
/-- of one cell's bridges, those that end below j -/
def gBs (w h : Int) (o : Int → Int) (p t c j s : Int) : Prop := (o c = p + 1 ∧ gst w h o c s = t) ∧ gfar w h c s < j
theorem gst_far (k : gOk w h) {c s : Int} (z : gst w h o c s ≠ 0) : gfar w h c s ≠ -1 := by
  intro e
  apply z
  unfold gst
  rw [if_pos e]
  split <;> rfl
theorem gBs_step (k : gOk w h) {t c j s0 : Int} (ht : t = 1 ∨ t = 2) (c0 : 0 ≤ c) (c1 : c < w * h) (h0 : 0 ≤ s0) (h1 : s0 < 3) (hf : gfar w h c s0 = j) (hj : 0 ≤ j) {s : Int} (a : 0 ≤ s) (b : s < 3) : gBs w h o p t c (j + 1) s ↔ gBs w h o p t c j s ∨ (s = s0 ∧ o c = p + 1 ∧ gst w h o c s0 = t) := by
  unfold gBs
  constructor
  · rintro ⟨⟨u1, u2⟩, u3⟩
    by_cases e : gfar w h c s = j
    · have : s = s0 := gfar_1 k c0 c1 a (by omega) h0 (by omega) (e.trans hf.symm) (by omega)
      rw [this] at u2
      exact Or.inr ⟨this, u1, u2⟩
    · exact Or.inl ⟨⟨u1, u2⟩, by omega⟩
  · rintro (⟨⟨u1, u2⟩, u3⟩ | ⟨rfl, u1, u2⟩)
    · exact ⟨⟨u1, u2⟩, by omega⟩
    · exact ⟨⟨u1, u2⟩, by omega⟩
theorem gBs_no {t c j : Int} (hf : ∀ s : Int, 0 ≤ s → s < 6 → gfar w h c s ≠ j) {s : Int} (a : 0 ≤ s) (b : s < 3) : gBs w h o p t c (j + 1) s ↔ gBs w h o p t c j s := by
  have := hf s a (by omega)
  unfold gBs
  constructor
  · rintro ⟨u, v⟩; exact ⟨u, by omega⟩
  · rintro ⟨u, v⟩; exact ⟨u, by omega⟩
noncomputable def gT (w h : Int) (o : Int → Int) (p t c j : Int) : Int := gat (gBs w h o p t c j 0) + gat (gBs w h o p t c j 1) + gat (gBs w h o p t c j 2)
theorem gT_b (t c j : Int) : 0 ≤ gT w h o p t c j ∧ gT w h o p t c j ≤ 3 := by
  have a := gat_b (gBs w h o p t c j 0)
  have b := gat_b (gBs w h o p t c j 1)
  have d := gat_b (gBs w h o p t c j 2)
  unfold gT
  omega
theorem gT_first (k : gOk w h) {t c : Int} (ht : t = 1 ∨ t = 2) (c0 : 0 ≤ c) (c1 : c < w * h) : gT w h o p t c (c + 1) = 0 := by
  have no : ∀ s : Int, 0 ≤ s → s < 3 → ¬ gBs w h o p t c (c + 1) s := by
    rintro s s0 s1 ⟨⟨u1, u2⟩, u3⟩
    have hf := gst_far (o := o) k (show gst w h o c s ≠ 0 by omega)
    have := (gfar_up k c0 c1 s0 (by omega) hf).mpr s1
    omega
  unfold gT
  rw [gat_f (no 0 (by omega) (by omega)), gat_f (no 1 (by omega) (by omega)), gat_f (no 2 (by omega) (by omega))]
  rfl
theorem gT_last (k : gOk w h) {t : Int} {c : Nat} (c1 : (c : Int) < w * h) : gcn (gbp w h o p t) (3 * c) + gT w h o p t c (w * h) = gcn (gbp w h o p t) (3 * (c + 1)) := by
  have lt : ∀ s : Int, gfar w h (c : Int) s < w * h := by
    intro s
    have := gbs_range k (gbs w h (c : Int) s) (gnx s)
    have hN := gOk_le k
    unfold gfar
    omega
  have e : ∀ s : Int, 0 ≤ s → s < 3 → (gBs w h o p t c (w * h) s ↔ gbp w h o p t (3 * (c : Int) + s)) := by
    intro s s0 s1
    unfold gBs gbp
    rw [show (3 * (c : Int) + s) / 3 = (c : Int) by omega, show (3 * (c : Int) + s) % 3 = s by omega]
    exact ⟨fun z => z.1, fun z => ⟨z, lt s⟩⟩
  have one : ∀ (P : Int → Prop) (n : Nat), gcn P (n + 1) = gcn P n + gat (P n) := fun P n => rfl
  rw [show 3 * (c + 1) = 3 * c + 1 + 1 + 1 by omega, one, one, one]
  unfold gT
  rw [gat_c (e 0 (by omega) (by omega)), gat_c (e 1 (by omega) (by omega)), gat_c (e 2 (by omega) (by omega))]
  rw [show ((3 * c : Nat) : Int) = 3 * (c : Int) + 0 by omega, show ((3 * c + 1 : Nat) : Int) = 3 * (c : Int) + 1 by omega, show ((3 * c + 1 + 1 : Nat) : Int) = 3 * (c : Int) + 2 by omega]
  omega
theorem gT_step (k : gOk w h) {t c j s0 : Int} (ht : t = 1 ∨ t = 2) (c0 : 0 ≤ c) (c1 : c < w * h) (h0 : 0 ≤ s0) (h1 : s0 < 3) (hf : gfar w h c s0 = j) (hj : 0 ≤ j) : gT w h o p t c (j + 1) = gT w h o p t c j + gat (o c = p + 1 ∧ gst w h o c s0 = t) := by
  have st := fun {s : Int} (a : 0 ≤ s) (b : s < 3) => gBs_step (o := o) (p := p) k ht c0 c1 h0 h1 hf hj a b
  have same : ∀ s : Int, 0 ≤ s → s < 3 → s ≠ s0 → gat (gBs w h o p t c (j + 1) s) = gat (gBs w h o p t c j s) := fun s a b ne => gat_c ⟨fun z => ((st a b).mp z).elim id (fun y => absurd y.1 ne), fun z => (st a b).mpr (Or.inl z)⟩
  have n0 : ¬ gBs w h o p t c j s0 := fun z => by have := z.2; omega
  have this : gat (gBs w h o p t c (j + 1) s0) = gat (o c = p + 1 ∧ gst w h o c s0 = t) := gat_c ⟨fun z => ((st h0 h1).mp z).elim (fun y => absurd y n0) (fun y => y.2), fun z => (st h0 h1).mpr (Or.inr ⟨rfl, z⟩)⟩
  have e0 := gat_f n0
  unfold gT
  rcases (show s0 = 0 ∨ s0 = 1 ∨ s0 = 2 by omega) with rfl | rfl | rfl
  · rw [this, same 1 (by omega) (by omega) (by omega), same 2 (by omega) (by omega) (by omega), e0]; omega
  · rw [this, same 0 (by omega) (by omega) (by omega), same 2 (by omega) (by omega) (by omega), e0]; omega
  · rw [this, same 0 (by omega) (by omega) (by omega), same 1 (by omega) (by omega) (by omega), e0]; omega
theorem gT_none {t c j : Int} (hf : ∀ s : Int, 0 ≤ s → s < 6 → gfar w h c s ≠ j) : gT w h o p t c (j + 1) = gT w h o p t c j := by
  unfold gT
  rw [gat_c (gBs_no hf (by omega) (by omega)), gat_c (gBs_no hf (by omega) (by omega)), gat_c (gBs_no hf (by omega) (by omega))]
theorem Q_bridges (P : Md M w h o) (hp : p = 0 ∨ p = 1) {t : Int} (ht : t = 1 ∨ t = 2) : fX14_bridges M p t = some (gcn (gbp w h o p t) (3 * (w * h)).toNat) := by
  have hN := gOk_le P.1
  have inner : ∀ c : Nat, (c : Int) < w * h → ∃ r, lp (fun q => fX14_bridges_b20 M p t (c : Int) q.1 q.2) lpN (gcn (gbp w h o p t) (3 * c), (c : Int) + 1) = some r ∧ r = gcn (gbp w h o p t) (3 * (c + 1)) := by
    intro c c1
    have hb := gcn_b (gbp w h o p t) (3 * c)
    refine lpn (w * h - ((c : Int) + 1)).toNat (by omega) (fun i q => q.2 = (c : Int) + 1 + (i : Int) ∧ q.1 = gcn (gbp w h o p t) (3 * c) + gT w h o p t c ((c : Int) + 1 + (i : Int))) _ _ ⟨by show (c : Int) + 1 = (c : Int) + 1 + ((0 : Nat) : Int); omega, ?_⟩ ?_ ?_
    · show gcn (gbp w h o p t) (3 * c) = _
      rw [show (c : Int) + 1 + ((0 : Nat) : Int) = (c : Int) + 1 by omega, gT_first P.1 ht (by omega) c1]
      omega
    · rintro i ⟨x, y⟩ hi ⟨hx, hy⟩
      right
      have hx : y = (c : Int) + 1 + (i : Int) := hx
      subst hx
      have hy : x = gcn (gbp w h o p t) (3 * c) + gT w h o p t c ((c : Int) + 1 + (i : Int)) := hy
      generalize hj : (c : Int) + 1 + (i : Int) = j at *
      obtain ⟨v, ev, v1, v2⟩ := Q_bridge P hp (c := (c : Int)) (e := j) (by omega) c1 (by omega) (by omega)
      have tb := gT_b (w := w) (h := h) (o := o) (p := p) t c j
      show ∃ s', fX14_bridges_b20 M p t (c : Int) x j = some (.inl s') ∧ _
      unfold fX14_bridges_b20
      rw [Q_cells P, if_pos (by omega), ev, bd1_s]
      have nx : gT w h o p t c (j + 1) = gT w h o p t c j + (if v = t then 1 else 0) := by
        by_cases ex : ∃ s : Int, 0 ≤ s ∧ s < 6 ∧ gfar w h c s = j
        · obtain ⟨s, s0, s1, sf⟩ := ex
          have s3 := (gfar_up P.1 (by omega) c1 s0 s1 (by omega)).mp (by rw [sf]; omega)
          rw [gT_step P.1 ht (by omega) c1 s0 s3 sf (by omega), v2 s s0 s1 sf]
          by_cases a : o (c : Int) = p + 1
          · rw [if_pos a]
            by_cases b : gst w h o c s = t
            · rw [gat_t ⟨a, b⟩, if_pos b]
            · rw [gat_f (fun z => b z.2), if_neg b]
          · rw [if_neg a, gat_f (fun z => a z.1), if_neg (by omega)]
        · have no : ∀ s : Int, 0 ≤ s → s < 6 → gfar w h c s ≠ j := fun s s0 s1 sf => ex ⟨s, s0, s1, sf⟩
          rw [gT_none no, v1 no, if_neg (by omega)]
          omega
      clear v1 v2
      by_cases e : v = t
      · rw [if_pos e, wr_eq (by omega) (by omega)]
        refine ⟨(_, _), rfl, by show j + 1 = (c : Int) + 1 + ((i + 1 : Nat) : Int); omega, ?_⟩
        rw [if_pos e] at nx
        show x + 1 = _
        rw [show (c : Int) + 1 + ((i + 1 : Nat) : Int) = j + 1 by omega, nx, hy]
        omega
      · rw [if_neg e, wr_eq (by omega) (by omega)]
        refine ⟨(_, _), rfl, by show j + 1 = (c : Int) + 1 + ((i + 1 : Nat) : Int); omega, ?_⟩
        rw [if_neg e] at nx
        show x + 0 = _
        rw [show (c : Int) + 1 + ((i + 1 : Nat) : Int) = j + 1 by omega, nx, hy]
        omega
    · rintro ⟨x, y⟩ ⟨hx, hy⟩
      have hx : y = (c : Int) + 1 + ((w * h - ((c : Int) + 1)).toNat : Int) := hx
      have hx2 : y = w * h := by omega
      subst hx2
      have hy : x = gcn (gbp w h o p t) (3 * c) + gT w h o p t c ((c : Int) + 1 + ((w * h - ((c : Int) + 1)).toNat : Int)) := hy
      rw [← hx, gT_last P.1 c1] at hy
      refine ⟨x, ?_, hy⟩
      show fX14_bridges_b20 M p t (c : Int) x (w * h) = _
      unfold fX14_bridges_b20
      rw [Q_cells P, if_neg (by omega)]
  have key : ∃ r, lp (fun q => fX14_bridges_b5 M p t q.1 q.2) lpN (0, 0) = some r ∧ r = gcn (gbp w h o p t) (3 * (w * h)).toNat := by
    refine lpn (w * h).toNat (by omega) (fun i q => q.2 = (i : Int) ∧ q.1 = gcn (gbp w h o p t) (3 * i)) _ _ ⟨rfl, rfl⟩ ?_ ?_
    · rintro i ⟨x, y⟩ hi ⟨hx, hy⟩
      right
      have hx : y = (i : Int) := hx
      subst hx
      have hy : x = gcn (gbp w h o p t) (3 * i) := hy
      obtain ⟨r, e, hr⟩ := inner i (by omega)
      refine ⟨(r, (i : Int) + 1), ?_, rfl, hr⟩
      show fX14_bridges_b5 M p t x (i : Int) = _
      unfold fX14_bridges_b5
      rw [Q_cells P, if_pos (by omega), hy, e]
      rfl
    · rintro ⟨x, y⟩ ⟨hx, hy⟩
      have hx : y = ((w * h).toNat : Int) := hx
      subst hx
      refine ⟨x, ?_, by rw [show (3 * (w * h)).toNat = 3 * (w * h).toNat by omega]; exact hy⟩
      show fX14_bridges_b5 M p t x ((w * h).toNat : Int) = _
      unfold fX14_bridges_b5
      rw [Q_cells P, if_neg (by omega)]
  obtain ⟨r, e, rfl⟩ := key
  unfold fX14_bridges
  rw [e]
  rfl
/-- the cells that save a broken bridge: of the cells before c, and of c those whose end is below j -/
def gSj (w h : Int) (o : Int → Int) (p c j e : Int) : Prop := gSe w h o p (3 * c) e ∨ ∃ s : Int, 0 ≤ s ∧ s < 3 ∧ gBs w h o p 2 c j s ∧ e = gemp w h o c s
theorem Q_saved (P : Md M w h o) (hp : p = 0 ∨ p = 1) : ∃ v, fX14_saved M p = some v ∧ gmin (gSe w h o p (3 * (w * h))) v := by
  have hN := gOk_le P.1
  have nn : ∀ c j : Int, 0 ≤ c → c < w * h → ∀ x, gSj w h o p c j x → 0 ≤ x := by
    rintro c j c0 c1 x (z | ⟨s, s0, s1, ⟨⟨_, b⟩, _⟩, rfl⟩)
    · exact gSe_nn P.1 (by omega) x z
    · exact (gemp_nn P.1 c0 c1 s0 (by omega) (by omega)).1
  have inner : ∀ (c : Nat) (v0 : Int), (c : Int) < w * h → gmin (gSe w h o p (3 * (c : Int))) v0 → ∃ r, lp (fun q => fX14_saved_b17 M p (c : Int) q.1 q.2) lpN (v0, (c : Int) + 1) = some r ∧ gmin (gSe w h o p (3 * ((c + 1 : Nat) : Int))) r := by
    intro c v0 c1 hv0
    refine lpn (w * h - ((c : Int) + 1)).toNat (by omega) (fun i q => q.2 = (c : Int) + 1 + (i : Int) ∧ gmin (gSj w h o p c ((c : Int) + 1 + (i : Int))) q.1) _ _ ⟨by show (c : Int) + 1 = (c : Int) + 1 + ((0 : Nat) : Int); omega, ?_⟩ ?_ ?_
    · refine gmin_c (fun e => ⟨Or.inl, ?_⟩) hv0
      rintro (z | ⟨s, s0, s1, ⟨⟨u1, u2⟩, u3⟩, _⟩)
      · exact z
      · have hf := gst_far (o := o) P.1 (show gst w h o (c : Int) s ≠ 0 by omega)
        have := (gfar_up P.1 (by omega) c1 s0 (by omega) hf).mpr s1
        omega
    · rintro i ⟨x, y⟩ hi ⟨hx, hy⟩
      right
      have hx : y = (c : Int) + 1 + (i : Int) := hx
      subst hx
      have hy : gmin (gSj w h o p c ((c : Int) + 1 + (i : Int))) x := hy
      generalize hj : (c : Int) + 1 + (i : Int) = j at *
      obtain ⟨v, ev, v1, v2⟩ := Q_bridge P hp (c := (c : Int)) (e := j) (by omega) c1 (by omega) (by omega)
      have c0 : 0 ≤ (c : Int) := by omega
      have j0 : 0 ≤ j := by omega
      have ej : (c : Int) + 1 + ((i + 1 : Nat) : Int) = j + 1 := by omega
      have hlt : j < w * h := by omega
      have jc : (c : Int) < j := by omega
      show ∃ s', fX14_saved_b17 M p (c : Int) x j = some (.inl s') ∧ _
      unfold fX14_saved_b17
      rw [Q_cells P, if_pos hlt, ev, bd1_s]
      by_cases ex : ∃ s : Int, 0 ≤ s ∧ s < 6 ∧ gfar w h c s = j
      · obtain ⟨s, s0, s1, sf⟩ := ex
        have s3 := (gfar_up P.1 c0 c1 s0 s1 (by rw [sf]; omega)).mp (by rw [sf]; exact jc)
        have hv := v2 s s0 s1 sf
        clear v1 v2
        have st := fun {s' : Int} (a : 0 ≤ s') (b : s' < 3) => gBs_step (o := o) (p := p) (t := 2) P.1 (Or.inr rfl) c0 c1 s0 s3 sf j0 a b
        by_cases e2 : v = 2
        · have oc : o (c : Int) = p + 1 := by
            by_cases a : o (c : Int) = p + 1
            · exact a
            · rw [if_neg a] at hv; omega
          rw [if_pos oc] at hv
          have g2 : gst w h o (c : Int) s = 2 := by omega
          have fv := gfar_v P.1 c0 c1 s0 s1
          have r1 := gbs_range P.1 (c : Int) s
          have q1 : 0 ≤ gbs w h (c : Int) s ∧ gbs w h (c : Int) s < 81 := by omega
          have a := (Q_btw P 0 c0 c1 j0).2 s s0 s1 sf
          have b := (Q_btw P 1 c0 c1 j0).2 s s0 s1 sf
          rw [if_pos rfl] at a
          rw [if_neg (by omega)] at b
          have gm := gmin_add (T := gSj w h o p c (j + 1)) (e := gemp w h o (c : Int) s) (by
            intro x
            constructor
            · rintro (z | ⟨s', u0, u1, u2, rfl⟩)
              · exact Or.inl (Or.inl z)
              · rcases (st u0 u1).mp u2 with z | z
                · exact Or.inl (Or.inr ⟨s', u0, u1, z, rfl⟩)
                · exact Or.inr (by rw [z.1])
            · rintro ((z | ⟨s', u0, u1, u2, rfl⟩) | rfl)
              · exact Or.inl z
              · exact Or.inr ⟨s', u0, u1, (st u0 u1).mpr (Or.inl u2), rfl⟩
              · exact Or.inr ⟨s, s0, s3, (st s0 s3).mpr (Or.inr ⟨rfl, oc, g2⟩), rfl⟩) (nn c j c0 c1) hy
          rw [if_pos e2, a, bd1_s, if_pos q1, P.2.2.2.2 _ q1.1 q1.2]
          by_cases u : o (gbs w h (c : Int) s) = 0
          · have ge : gemp w h o (c : Int) s = gbs w h (c : Int) s := by unfold gemp; rw [if_pos u]
            rw [ge] at gm
            rw [if_pos (by omega)]
            by_cases z : x = -1
            · rw [if_pos z] at gm ⊢
              exact ⟨(_, _), rfl, ej.symm, by rw [ej]; exact gm⟩
            · rw [if_neg z] at gm ⊢
              exact ⟨(_, _), rfl, ej.symm, by rw [ej]; exact gm⟩
          · have ge : gemp w h o (c : Int) s = gbs w h (c : Int) (gnx s) := by unfold gemp; rw [if_neg u]
            rw [ge] at gm
            rw [if_neg (by omega), b, bd1_s]
            by_cases z : x = -1
            · rw [if_pos z] at gm ⊢
              exact ⟨(_, _), rfl, ej.symm, by rw [ej]; exact gm⟩
            · rw [if_neg z] at gm ⊢
              exact ⟨(_, _), rfl, ej.symm, by rw [ej]; exact gm⟩
        · rw [if_neg e2]
          refine ⟨(_, _), rfl, ej.symm, ?_⟩
          rw [ej]
          refine gmin_c (fun e => ⟨?_, ?_⟩) hy
          · rintro (z | ⟨s', u0, u1, u2, q⟩)
            · exact Or.inl z
            · exact Or.inr ⟨s', u0, u1, (st u0 u1).mpr (Or.inl u2), q⟩
          · rintro (z | ⟨s', u0, u1, u2, q⟩)
            · exact Or.inl z
            · rcases (st u0 u1).mp u2 with z | z
              · exact Or.inr ⟨s', u0, u1, z, q⟩
              · rw [if_pos z.2.1] at hv
                exact absurd (hv.trans z.2.2) e2
      · have no : ∀ s : Int, 0 ≤ s → s < 6 → gfar w h c s ≠ j := fun s s0 s1 sf => ex ⟨s, s0, s1, sf⟩
        rw [v1 no, if_neg (by omega)]
        refine ⟨(_, _), rfl, ej.symm, ?_⟩
        rw [ej]
        refine gmin_c (fun e => ⟨?_, ?_⟩) hy
        · rintro (z | ⟨s', u0, u1, u2, q⟩)
          · exact Or.inl z
          · exact Or.inr ⟨s', u0, u1, (gBs_no no u0 u1).mpr u2, q⟩
        · rintro (z | ⟨s', u0, u1, u2, q⟩)
          · exact Or.inl z
          · exact Or.inr ⟨s', u0, u1, (gBs_no no u0 u1).mp u2, q⟩
    · rintro ⟨x, y⟩ ⟨hx, hy⟩
      have hx : y = (c : Int) + 1 + ((w * h - ((c : Int) + 1)).toNat : Int) := hx
      have hx2 : y = w * h := by omega
      subst hx2
      have hy : gmin (gSj w h o p c ((c : Int) + 1 + ((w * h - ((c : Int) + 1)).toNat : Int))) x := hy
      rw [← hx] at hy
      refine ⟨x, ?_, ?_⟩
      · show fX14_saved_b17 M p (c : Int) x (w * h) = _
        unfold fX14_saved_b17
        rw [Q_cells P, if_neg (by omega)]
      · refine gmin_c (fun e => ⟨?_, ?_⟩) hy
        · rintro (⟨m, m0, m1, b, q⟩ | ⟨s, s0, s1, ⟨b, _⟩, q⟩)
          · exact ⟨m, m0, by omega, b, q⟩
          · refine ⟨3 * (c : Int) + s, by omega, by omega, ?_, ?_⟩
            · unfold gbp
              rw [show (3 * (c : Int) + s) / 3 = (c : Int) by omega, show (3 * (c : Int) + s) % 3 = s by omega]
              exact b
            · rw [show (3 * (c : Int) + s) / 3 = (c : Int) by omega, show (3 * (c : Int) + s) % 3 = s by omega]
              exact q
        · rintro ⟨m, m0, m1, b, q⟩
          by_cases z : m < 3 * (c : Int)
          · exact Or.inl ⟨m, m0, z, b, q⟩
          · have m3 : m / 3 = (c : Int) := by omega
            unfold gbp at b
            rw [m3] at b q
            refine Or.inr ⟨m % 3, by omega, by omega, ⟨b, ?_⟩, q⟩
            have := gbs_range P.1 (gbs w h (c : Int) (m % 3)) (gnx (m % 3))
            unfold gfar
            omega
  have key : ∃ r, lp (fun q => fX14_saved_b4 M p q.1 q.2) lpN (-1, 0) = some r ∧ gmin (gSe w h o p (3 * (w * h))) r := by
    refine lpn (w * h).toNat (by omega) (fun i q => q.2 = (i : Int) ∧ gmin (gSe w h o p (3 * (i : Int))) q.1) _ _ ⟨rfl, Or.inl ⟨rfl, fun e ⟨m, m0, m1, _⟩ => by omega⟩⟩ ?_ ?_
    · rintro i ⟨x, y⟩ hi ⟨hx, hy⟩
      right
      have hx : y = (i : Int) := hx
      subst hx
      have hy : gmin (gSe w h o p (3 * (i : Int))) x := hy
      obtain ⟨r, e, hr⟩ := inner i x (by omega) hy
      refine ⟨(r, (i : Int) + 1), ?_, rfl, hr⟩
      show fX14_saved_b4 M p x (i : Int) = _
      unfold fX14_saved_b4
      rw [Q_cells P, if_pos (by omega), e]
      rfl
    · rintro ⟨x, y⟩ ⟨hx, hy⟩
      have hx : y = ((w * h).toNat : Int) := hx
      subst hx
      have hy : gmin (gSe w h o p (3 * ((w * h).toNat : Int))) x := hy
      refine ⟨x, ?_, by rw [show w * h = ((w * h).toNat : Int) by omega]; exact hy⟩
      show fX14_saved_b4 M p x ((w * h).toNat : Int) = _
      unfold fX14_saved_b4
      rw [Q_cells P, if_neg (by omega)]
  obtain ⟨r, e, hr⟩ := key
  refine ⟨r, ?_, hr⟩
  unfold fX14_saved
  rw [e]
  rfl
end MBR
