/-! touching, counting, finding: the same in both -/
/-- what is known of an item's numbers -/
def okr (w h x0 y0 x1 y1 : Nat) : Prop := (x0 < x1 ∧ x1 ≤ w ∧ y0 < y1 ∧ y1 ≤ h) ∨ (x0 = 0 ∧ x1 = 0 ∧ y0 = 0 ∧ y1 = 0)
theorem okr.le {w h x0 y0 x1 y1 : Nat} (o : okr w h x0 y0 x1 y1) : x0 ≤ w ∧ x1 ≤ w ∧ y0 ≤ h ∧ y1 ≤ h := by
  rcases o with o | o <;> omega
theorem tc_tb {w h k j t x0 y0 x1 y1 : Nat} {af : Nat → Int32} (hw : 1 ≤ w) (hw2 : w ≤ 1024) (hh : 1 ≤ h) (hh2 : h ≤ 1024) (h1 : 3 ≤ k) (h2 : k ≤ 6) (ht : t < rl_co w k * rl_co h k) (hj : j ≤ 512) (o : okr w h x0 y0 x1 y1)
    (e0 : af (j * 6 + 0) = nI x0) (e1 : af (j * 6 + 1) = nI y0) (e2 : af (j * 6 + 2) = nI x1) (e3 : af (j * 6 + 3) = nI y1) :
    (tb_touch (nI k) af (nI j) (nI (t % rl_co w k * 2 ^ k)) (nI (t / rl_co w k * 2 ^ k)) = 0 ↔ ¬ tch k (rl_co w k) x0 y0 x1 y1 t) := by
  have hp := nm_pow h1 h2
  have hm := nm_tile ht
  have hX := nm_lt hw hm.1
  have hY := nm_lt hh hm.2
  have hle := o.le
  unfold tb_touch tch
  rw [nm_side h1 h2, lm_ixv (K := 0) (k := 0) rfl (by decide) (by omega), lm_ixv (K := 1) (k := 1) rfl (by decide) (by omega), lm_ixv (K := 2) (k := 2) rfl (by decide) (by omega), lm_ixv (K := 3) (k := 3) rfl (by decide) (by omega), e0, e1, e2, e3, nI_add, nI_add]
  generalize t % rl_co w k * 2 ^ k = X at *
  generalize t / rl_co w k * 2 ^ k = Y at *
  generalize 2 ^ k = S at *
  by_cases c1 : nI (X + S) ≤ nI x0
  · rw [if_pos c1]
    rw [nI_leI (by omega) (by omega)] at c1
    exact ⟨fun _ => by omega, fun _ => rfl⟩
  · rw [if_neg c1]
    rw [nI_leI (by omega) (by omega)] at c1
    by_cases c2 : nI x1 ≤ nI X
    · rw [if_pos c2]
      rw [nI_leI (by omega) (by omega)] at c2
      exact ⟨fun _ => by omega, fun _ => rfl⟩
    · rw [if_neg c2]
      rw [nI_leI (by omega) (by omega)] at c2
      by_cases c3 : nI (Y + S) ≤ nI y0
      · rw [if_pos c3]
        rw [nI_leI (by omega) (by omega)] at c3
        exact ⟨fun _ => by omega, fun _ => rfl⟩
      · rw [if_neg c3]
        rw [nI_leI (by omega) (by omega)] at c3
        by_cases c4 : nI y1 ≤ nI Y
        · rw [if_pos c4]
          rw [nI_leI (by omega) (by omega)] at c4
          exact ⟨fun _ => by omega, fun _ => rfl⟩
        · rw [if_neg c4]
          rw [nI_leI (by omega) (by omega)] at c4
          exact ⟨fun h => absurd h (by decide), fun h => absurd (show _ from ⟨⟨by omega, by omega⟩, by omega, by omega⟩) h⟩
theorem tc_md {w h k j t x0 y0 x1 y1 : Nat} {f1 f2 f3 f4 : Nat → Int32} (hw : 1 ≤ w) (hw2 : w ≤ 1024) (hh : 1 ≤ h) (hh2 : h ≤ 1024) (h1 : 3 ≤ k) (h2 : k ≤ 6) (ht : t < rl_co w k * rl_co h k) (hj : j < 2 ^ 31) (o : okr w h x0 y0 x1 y1)
    (e0 : f1 j = nI x0) (e1 : f2 j = nI y0) (e2 : f3 j = nI x1) (e3 : f4 j = nI y1) :
    (md_touch (nI w) (nI h) (nI (2 ^ k)) f1 f2 f3 f4 (nI j) (nI t) = 0 ↔ ¬ tch k (rl_co w k) x0 y0 x1 y1 t) := by
  have hp := nm_pow h1 h2
  have hT := nm_T hw hw2 hh hh2 h1
  have hm := nm_tile ht
  have hX := nm_lt hw hm.1
  have hY := nm_lt hh hm.2
  have hle := o.le
  unfold md_touch tch
  rw [nm_e0 hw hw2 h1 h2 (by omega), nm_e1 hw hw2 h1 h2 (by omega), nm_e2 hw hw2 h1 h2 (by omega), nm_e3 hw hw2 hh hh2 h1 h2 ht, nI_clamp hj, e0, e1, e2, e3]
  generalize t % rl_co w k * 2 ^ k = X at *
  generalize t / rl_co w k * 2 ^ k = Y at *
  generalize 2 ^ k = S at *
  rw [nm_great (by omega) (by omega), nm_great (by omega) (by omega), nm_least (by omega) (by omega), nm_least (by omega) (by omega), nm_isEmpty (by omega) (by omega) (by omega) (by omega)]
  unfold okr at o
  by_cases c : max x0 X < min x1 (min (X + S) w) ∧ max y0 Y < min y1 (min (Y + S) h)
  · rw [if_pos c, if_pos rfl]
    exact ⟨fun h => absurd h (by decide), fun h => absurd (show _ from ⟨⟨by omega, by omega⟩, by omega, by omega⟩) h⟩
  · rw [if_neg c, if_neg (by decide)]
    exact ⟨fun _ => by omega, fun _ => rfl⟩
/-- counting -/
noncomputable def cntP (p : Nat → Prop) : Nat → Nat
  | 0 => 0
  | j + 1 => cntP p j + (if @decide (p j) (Classical.propDecidable _) = true then 1 else 0)
theorem cntP_s (p : Nat → Prop) (j : Nat) : cntP p (j + 1) = cntP p j + (if @decide (p j) (Classical.propDecidable _) = true then 1 else 0) := rfl
theorem cntP_y {p : Nat → Prop} {j : Nat} (h : p j) : cntP p (j + 1) = cntP p j + 1 := by
  rw [cntP_s, if_pos (by simp [h])]
theorem cntP_n {p : Nat → Prop} {j : Nat} (h : ¬ p j) : cntP p (j + 1) = cntP p j := by
  rw [cntP_s, if_neg (by simp [h]), Nat.add_zero]
theorem cntP_congr {p q : Nat → Prop} {n : Nat} (h : ∀ j, j < n → (p j ↔ q j)) : cntP p n = cntP q n := by
  induction n with
  | zero => rfl
  | succ n ih =>
    have ih := ih (fun j hj => h j (by omega))
    by_cases hp : p n
    · rw [cntP_y hp, cntP_y ((h n (by omega)).mp hp), ih]
    · rw [cntP_n hp, cntP_n (fun hq => hp ((h n (by omega)).mpr hq)), ih]
theorem cntP_0 {p : Nat → Prop} {n : Nat} (h : ∀ j, j < n → ¬ p j) : cntP p n = 0 := by
  induction n with
  | zero => rfl
  | succ n ih => rw [cntP_n (h n (by omega)), ih (fun j hj => h j (by omega))]
theorem cntP_le (p : Nat → Prop) (n : Nat) : cntP p n ≤ n := by
  induction n with
  | zero => exact Nat.le_refl 0
  | succ n ih =>
    by_cases hp : p n
    · rw [cntP_y hp]; omega
    · rw [cntP_n hp]; omega
theorem cntP_rng {a b : Nat} (hab : a ≤ b) (n : Nat) : cntP (fun x => a ≤ x ∧ x ≤ b) n = min n (b + 1) - min n a := by
  induction n with
  | zero => simp [cntP]
  | succ n ih =>
    by_cases h : a ≤ n ∧ n ≤ b
    · rw [cntP_y h, ih]; omega
    · rw [cntP_n h, ih]; omega
theorem cntP_grid {A B : Nat → Prop} {co : Nat} (hc : 0 < co) (li : Nat) : cntP (fun t => A (t % co) ∧ B (t / co)) (co * li) = cntP A co * cntP B li := by
  induction li with
  | zero => rfl
  | succ li ih =>
    have key : ∀ m, m ≤ co → cntP (fun t => A (t % co) ∧ B (t / co)) (co * li + m) = cntP (fun t => A (t % co) ∧ B (t / co)) (co * li) + (if @decide (B li) (Classical.propDecidable _) = true then cntP A m else 0) := by
      intro m
      induction m with
      | zero =>
        intro _
        split <;> rfl
      | succ m ihm =>
        intro hm
        have ihm := ihm (by omega)
        have e1 : (co * li + m) % co = m := by rw [Nat.mul_add_mod]; exact Nat.mod_eq_of_lt (by omega)
        have e2 : (co * li + m) / co = li := by rw [Nat.mul_add_div hc, Nat.div_eq_of_lt (by omega), Nat.add_zero]
        by_cases hB : B li
        · have hd : @decide (B li) (Classical.propDecidable _) = true := by simp [hB]
          rw [if_pos hd] at ihm ⊢
          by_cases hA : A m
          · rw [← Nat.add_assoc, cntP_y (by show A _ ∧ B _; rw [e1, e2]; exact ⟨hA, hB⟩), ihm, cntP_y hA]; omega
          · rw [← Nat.add_assoc, cntP_n (by show ¬ (A _ ∧ B _); rw [e1, e2]; exact fun h => hA h.1), ihm, cntP_n hA]
        · have hd : ¬ @decide (B li) (Classical.propDecidable _) = true := by simp [hB]
          rw [if_neg hd] at ihm ⊢
          rw [← Nat.add_assoc, cntP_n (by show ¬ (A _ ∧ B _); rw [e1, e2]; exact fun h => hB h.2), ihm]
    have h := key co (Nat.le_refl co)
    rw [Nat.mul_succ, h, ih]
    by_cases hB : B li
    · rw [if_pos (by simp [hB]), cntP_y hB, Nat.mul_succ]
    · rw [if_neg (by simp [hB]), cntP_n hB, Nat.add_zero]
theorem span_iff {S x0 x1 t : Nat} (hS : 0 < S) (h : x0 < x1) : (x0 < t * S + S ∧ t * S < x1) ↔ (x0 / S ≤ t ∧ t ≤ (x1 - 1) / S) := by
  constructor
  · rintro ⟨h1, h2⟩
    refine ⟨?_, ?_⟩
    · have h3 : x0 < (t + 1) * S := by rw [Nat.add_mul, Nat.one_mul]; exact h1
      exact Nat.lt_succ_iff.mp ((Nat.div_lt_iff_lt_mul hS).mpr h3)
    · exact (Nat.le_div_iff_mul_le hS).mpr (by omega)
  · rintro ⟨h1, h2⟩
    refine ⟨?_, ?_⟩
    · have h3 := (Nat.div_lt_iff_lt_mul hS).mp (Nat.lt_succ_iff.mpr h1)
      rw [Nat.succ_mul] at h3
      exact h3
    · have h3 := (Nat.le_div_iff_mul_le hS).mp h2
      omega
/-- so many tiles an item touches -/
theorem cnt_tiles {w h k x0 y0 x1 y1 : Nat} (o : okr w h x0 y0 x1 y1) : cntP (tch k (rl_co w k) x0 y0 x1 y1) (rl_co w k * rl_co h k) = rl_cnt k x0 y0 x1 y1 := by
  have hS : 0 < 2 ^ k := Nat.pow_pos (by decide)
  have hc : 0 < rl_co w k := Nat.succ_pos _
  rcases o with ⟨hx, hxw, hy, hyh⟩ | ⟨rfl, rfl, rfl, rfl⟩
  · have e : cntP (tch k (rl_co w k) x0 y0 x1 y1) (rl_co w k * rl_co h k) = cntP (fun t => (fun a => x0 / 2 ^ k ≤ a ∧ a ≤ (x1 - 1) / 2 ^ k) (t % rl_co w k) ∧ (fun a => y0 / 2 ^ k ≤ a ∧ a ≤ (y1 - 1) / 2 ^ k) (t / rl_co w k)) (rl_co w k * rl_co h k) :=
      cntP_congr (fun t _ => by unfold tch; rw [span_iff hS hx, span_iff hS hy])
    have a1 : x0 / 2 ^ k ≤ (x1 - 1) / 2 ^ k := Nat.div_le_div_right (by omega)
    have a2 : y0 / 2 ^ k ≤ (y1 - 1) / 2 ^ k := Nat.div_le_div_right (by omega)
    have a3 : (x1 - 1) / 2 ^ k ≤ (w - 1) / 2 ^ k := Nat.div_le_div_right (by omega)
    have a4 : (y1 - 1) / 2 ^ k ≤ (h - 1) / 2 ^ k := Nat.div_le_div_right (by omega)
    rw [e, cntP_grid (A := fun a => x0 / 2 ^ k ≤ a ∧ a ≤ (x1 - 1) / 2 ^ k) (B := fun a => y0 / 2 ^ k ≤ a ∧ a ≤ (y1 - 1) / 2 ^ k) hc, cntP_rng a1, cntP_rng a2]
    unfold rl_cnt rl_co
    rw [if_pos hx]
    generalize (x1 - 1) / 2 ^ k = p1 at *
    generalize x0 / 2 ^ k = p0 at *
    generalize (y1 - 1) / 2 ^ k = p3 at *
    generalize y0 / 2 ^ k = p2 at *
    generalize (w - 1) / 2 ^ k = pw at *
    generalize (h - 1) / 2 ^ k = ph at *
    rw [show min (pw + 1) (p1 + 1) - min (pw + 1) p0 = p1 - p0 + 1 by omega, show min (ph + 1) (p3 + 1) - min (ph + 1) p2 = p3 - p2 + 1 by omega]
  · rw [cntP_0 (fun t _ h => by unfold tch at h; omega)]
    rfl
/-- the reference's count of an item's tiles -/
theorem md_ctN {w h k j x0 y0 x1 y1 : Nat} {f1 f2 f3 f4 : Nat → Int32} (hw : 1 ≤ w) (hw2 : w ≤ 1024) (hh : 1 ≤ h) (hh2 : h ≤ 1024) (h1 : 3 ≤ k) (h2 : k ≤ 6) (hj : j < 2 ^ 31) (o : okr w h x0 y0 x1 y1)
    (e0 : f1 j = nI x0) (e1 : f2 j = nI y0) (e2 : f3 j = nI x1) (e3 : f4 j = nI y1) (T : Nat) (hT : T ≤ rl_co w k * rl_co h k) :
    md_ct (nI w) (nI h) (nI (2 ^ k)) f1 f2 f3 f4 (nI j) T = nI (cntP (tch k (rl_co w k) x0 y0 x1 y1) T) := by
  induction T with
  | zero => rfl
  | succ T ih =>
    have ih := ih (by omega)
    have hc := tc_md hw hw2 hh hh2 h1 h2 (show T < rl_co w k * rl_co h k by omega) hj o e0 e1 e2 e3
    rw [md_ct_s]
    by_cases ht : tch k (rl_co w k) x0 y0 x1 y1 T
    · rw [if_neg (fun h => hc.mp h ht), ih, cntP_y ht, nI_1]
    · rw [if_pos (hc.mpr ht), ih, cntP_n ht]
theorem md_tilesN {w h k j x0 y0 x1 y1 : Nat} {f1 f2 f3 f4 : Nat → Int32} (hw : 1 ≤ w) (hw2 : w ≤ 1024) (hh : 1 ≤ h) (hh2 : h ≤ 1024) (h1 : 3 ≤ k) (h2 : k ≤ 6) (hj : j < 2 ^ 31) (o : okr w h x0 y0 x1 y1)
    (e0 : f1 j = nI x0) (e1 : f2 j = nI y0) (e2 : f3 j = nI x1) (e3 : f4 j = nI y1) : md_tilesOf (nI w) (nI h) (nI (2 ^ k)) f1 f2 f3 f4 (nI j) = nI (rl_cnt k x0 y0 x1 y1) := by
  have hT := nm_T hw hw2 hh hh2 h1
  unfold md_tilesOf
  rw [nm_mtiles hw hw2 hh hh2 h1 h2, nI_clamp (by omega), md_ctN hw hw2 hh hh2 h1 h2 hj o e0 e1 e2 e3 _ (Nat.le_refl _), cnt_tiles o]
theorem rl_cnt_le {w h k x0 y0 x1 y1 : Nat} (o : okr w h x0 y0 x1 y1) (hw : 1 ≤ w) (hw2 : w ≤ 1024) (hh : 1 ≤ h) (hh2 : h ≤ 1024) (h1 : 3 ≤ k) : rl_cnt k x0 y0 x1 y1 ≤ 16384 := by
  have hT := nm_T hw hw2 hh hh2 h1
  have h := cntP_le (tch k (rl_co w k) x0 y0 x1 y1) (rl_co w k * rl_co h k)
  rw [cnt_tiles o] at h
  omega
/-- the same answer at an item and a tile -/
theorem tc_same {w h k j t : Nat} {af f1 f2 f3 f4 f5 : Nat → Int32} (hw : 1 ≤ w) (hw2 : w ≤ 1024) (hh : 1 ≤ h) (hh2 : h ≤ 1024) (h1 : 3 ≤ k) (h2 : k ≤ 6) (ht : t < rl_co w k * rl_co h k) (hj : j ≤ 512) (hi : rl_item w h k af f1 f2 f3 f4 f5 j) :
    (tb_touch (nI k) af (nI j) (nI (t % rl_co w k * 2 ^ k)) (nI (t / rl_co w k * 2 ^ k)) = 0 ↔ md_touch (nI w) (nI h) (nI (2 ^ k)) f1 f2 f3 f4 (nI j) (nI t) = 0) := by
  obtain ⟨x0, y0, x1, y1, o, a0, a1, a2, a3, -, -, b0, b1, b2, b3⟩ := hi
  rw [tc_tb hw hw2 hh hh2 h1 h2 ht hj o a0 a1 a2 a3, tc_md hw hw2 hh hh2 h1 h2 ht (by omega) o b0 b1 b2 b3]
theorem cnt_same {w h k N t : Nat} {af f1 f2 f3 f4 f5 : Nat → Int32} (hw : 1 ≤ w) (hw2 : w ≤ 1024) (hh : 1 ≤ h) (hh2 : h ≤ 1024) (h1 : 3 ≤ k) (h2 : k ≤ 6) (ht : t < rl_co w k * rl_co h k) (hN : N ≤ 512) (hi : ∀ j, j < N → rl_item w h k af f1 f2 f3 f4 f5 j) :
    tb_cnt (nI k) af (nI (t % rl_co w k * 2 ^ k)) (nI (t / rl_co w k * 2 ^ k)) N = md_cm (nI w) (nI h) (nI (2 ^ k)) f1 f2 f3 f4 (nI t) N := by
  induction N with
  | zero => rfl
  | succ N ih =>
    have ih := ih (by omega) (fun j hj => hi j (by omega))
    have hc := tc_same hw hw2 hh hh2 h1 h2 ht (show N ≤ 512 by omega) (hi N (by omega))
    rw [tb_cnt_s, md_cm_s, ih]
    by_cases c : tb_touch (nI k) af (nI N) (nI (t % rl_co w k * 2 ^ k)) (nI (t / rl_co w k * 2 ^ k)) = 0
    · rw [if_pos c, if_pos (hc.mp c)]
    · rw [if_neg c, if_neg (fun h => c (hc.mpr h))]
theorem many_same {w h k N t : Nat} {af f1 f2 f3 f4 f5 : Nat → Int32} (hw : 1 ≤ w) (hw2 : w ≤ 1024) (hh : 1 ≤ h) (hh2 : h ≤ 1024) (h1 : 3 ≤ k) (h2 : k ≤ 6) (ht : t < rl_co w k * rl_co h k) (hN : N ≤ 512) (hi : ∀ j, j < N → rl_item w h k af f1 f2 f3 f4 f5 j) :
    tb_many (nI k) (nI (rl_co w k)) (nI N) af (nI t) = md_manyOf (nI N) (nI w) (nI h) (nI (2 ^ k)) f1 f2 f3 f4 (nI t) := by
  have hT := nm_T hw hw2 hh hh2 h1
  unfold tb_many md_manyOf
  rw [nm_left hw hw2 h1 h2 (by omega), nm_top hw hw2 hh hh2 h1 h2 ht, nI_clamp (by omega)]
  exact cnt_same hw hw2 hh hh2 h1 h2 ht hN hi
/-- finding -/
theorem adv_le {w h k : Nat} {f1 f2 f3 f4 : Nat → Int32} {go : Int32} : ∀ (d j : Nat), j ≤ md_adv (nI w) (nI h) (nI (2 ^ k)) f1 f2 f3 f4 go d j ∧ md_adv (nI w) (nI h) (nI (2 ^ k)) f1 f2 f3 f4 go d j ≤ j + d := by
  intro d
  induction d with
  | zero => intro j; rw [md_adv_0]; omega
  | succ d ih =>
    intro j
    rw [md_adv_s]
    split
    · have := ih (j + 1); omega
    · omega
theorem fst_same {w h k N t : Nat} {af f1 f2 f3 f4 f5 : Nat → Int32} (hw : 1 ≤ w) (hw2 : w ≤ 1024) (hh : 1 ≤ h) (hh2 : h ≤ 1024) (h1 : 3 ≤ k) (h2 : k ≤ 6) (ht : t < rl_co w k * rl_co h k) (hN : N ≤ 512) (hi : ∀ j, j < N → rl_item w h k af f1 f2 f3 f4 f5 j) :
    ∀ (d j : Nat), j + d = N → tb_fst (nI k) af (nI (t % rl_co w k * 2 ^ k)) (nI (t / rl_co w k * 2 ^ k)) d j = if md_adv (nI w) (nI h) (nI (2 ^ k)) f1 f2 f3 f4 (nI t) d j = N then -1 else nI (md_adv (nI w) (nI h) (nI (2 ^ k)) f1 f2 f3 f4 (nI t) d j) := by
  intro d
  induction d with
  | zero =>
    intro j hj
    rw [md_adv_0, tb_fst_0, if_pos (by omega)]
  | succ d ih =>
    intro j hj
    have hc := tc_same hw hw2 hh hh2 h1 h2 ht (show j ≤ 512 by omega) (hi j (by omega))
    rw [tb_fst_s, md_adv_s]
    by_cases c : tb_touch (nI k) af (nI j) (nI (t % rl_co w k * 2 ^ k)) (nI (t / rl_co w k * 2 ^ k)) = 0
    · rw [if_pos c, if_pos (hc.mp c)]
      exact ih (j + 1) (by omega)
    · rw [if_neg c, if_neg (fun h => c (hc.mpr h)), if_neg (by omega)]
