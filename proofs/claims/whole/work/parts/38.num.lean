/-! numbers: what the two classes compute, over natural numbers -/
theorem nm_s31 : ∀ n, n < 32 → ((nI n &&& 31).toBitVec.smod 32).toNat = n := by decide +kernel
theorem nm_shr {a k : Nat} (ha : a < 2 ^ 31) (hk : k < 32) : nI a >>> (nI k &&& 31) = nI (a / 2 ^ k) := pk_shrN ha _ k (nm_s31 k hk)
theorem nm_shl {a k : Nat} (hk : k < 32) (h : a * 2 ^ k < 2 ^ 32) : nI a <<< (nI k &&& 31) = nI (a * 2 ^ k) := pk_shlN _ k (nm_s31 k hk) h
theorem nm_pow {k : Nat} (h1 : 3 ≤ k) (h2 : k ≤ 6) : 8 ≤ 2 ^ k ∧ 2 ^ k ≤ 64 := by
  rcases (show k = 3 ∨ k = 4 ∨ k = 5 ∨ k = 6 by omega) with rfl | rfl | rfl | rfl <;> decide
theorem nm_side {k : Nat} (h1 : 3 ≤ k) (h2 : k ≤ 6) : tb_side (nI k) = nI (2 ^ k) := by
  unfold tb_side
  have hp := nm_pow h1 h2
  rw [show (1 : Int32) = nI 1 by decide, nm_shl (by omega) (by omega), Nat.one_mul]
theorem nm_sub1 {a : Nat} (h : 1 ≤ a) : nI a - 1 = nI (a - 1) := by
  obtain ⟨b, rfl⟩ : ∃ b, a = b + 1 := ⟨a - 1, by omega⟩
  rw [nI_pred, Nat.add_sub_cancel]
theorem nm_tacross {k a b : Nat} (h2 : k ≤ 6) (hab : a < b) (hb : b ≤ 2000) : tb_across (nI k) (nI a) (nI b) = nI ((b - 1) / 2 ^ k - a / 2 ^ k + 1) := by
  unfold tb_across
  rw [nm_sub1 (by omega), nm_shr (by omega) (by omega), nm_shr (by omega) (by omega), pk_sub (Nat.div_le_div_right (by omega)), nI_1]
theorem nm_tacross0 {k b : Nat} (h2 : k ≤ 6) (hb1 : 1 ≤ b) (hb : b ≤ 2000) : tb_across (nI k) 0 (nI b) = nI (rl_co b k) := by
  rw [show (0 : Int32) = nI 0 by decide, nm_tacross h2 (by omega) hb, Nat.zero_div, Nat.sub_zero]
  rfl
theorem nm_divS {w S : Nat} (hw : 1 ≤ w) (hS : 0 < S) : (w + S - 1) / S = (w - 1) / S + 1 := by
  rw [show w + S - 1 = w - 1 + S by omega, Nat.add_div_right _ hS]
theorem nm_idiv {w k : Nat} (hw : 1 ≤ w) (hw2 : w ≤ 1024) (h1 : 3 ≤ k) (h2 : k ≤ 6) : ((nI w + nI (2 ^ k)) - 1) / nI (2 ^ k) = nI (rl_co w k) := by
  have hp := nm_pow h1 h2
  rw [nI_add, nm_sub1 (by omega), pk_div (by omega) (by omega) (by omega), nm_divS hw (by omega)]
  rfl
theorem nm_macross {w k : Nat} (hw : 1 ≤ w) (hw2 : w ≤ 1024) (h1 : 3 ≤ k) (h2 : k ≤ 6) : md_across (nI w) (nI (2 ^ k)) = nI (rl_co w k) := nm_idiv hw hw2 h1 h2
theorem nm_co {w k : Nat} (hw : 1 ≤ w) (hw2 : w ≤ 1024) (h1 : 3 ≤ k) : 1 ≤ rl_co w k ∧ rl_co w k ≤ 128 := by
  unfold rl_co
  have h8 : 2 ^ 3 ≤ 2 ^ k := Nat.pow_le_pow_right (by decide) h1
  have h : (w - 1) / 2 ^ k ≤ (w - 1) / 8 := Nat.div_le_div_left (by simpa using h8) (by decide)
  generalize (w - 1) / 2 ^ k = z at h ⊢
  omega
theorem nm_T {w h k : Nat} (hw : 1 ≤ w) (hw2 : w ≤ 1024) (hh : 1 ≤ h) (hh2 : h ≤ 1024) (h1 : 3 ≤ k) : 1 ≤ rl_co w k * rl_co h k ∧ rl_co w k * rl_co h k ≤ 16384 := by
  have a := nm_co hw hw2 h1
  have b := nm_co hh hh2 h1
  constructor
  · exact Nat.mul_pos a.1 b.1
  · exact Nat.mul_le_mul a.2 b.2
theorem nm_mtiles {w h k : Nat} (hw : 1 ≤ w) (hw2 : w ≤ 1024) (hh : 1 ≤ h) (hh2 : h ≤ 1024) (h1 : 3 ≤ k) (h2 : k ≤ 6) : md_tiles (nI w) (nI h) (nI (2 ^ k)) = nI (rl_co w k * rl_co h k) := by
  unfold md_tiles
  rw [nm_macross hw hw2 h1 h2, nm_idiv hh hh2 h1 h2, pk_mul]
theorem nm_ttiles {w h k : Nat} : tb_tiles (nI (rl_co w k)) (nI (rl_co h k)) = nI (rl_co w k * rl_co h k) := by
  unfold tb_tiles
  rw [pk_mul]
/-- a number from 0 on, below a bound -/
theorem nm_in {a : Int32} {T : Nat} (hT : 1 ≤ T) (hT2 : T < 2 ^ 31) : (md_in a 0 (nI T - 1) = 0 ∧ (a < 0 ∨ nI T ≤ a)) ∨ (md_in a 0 (nI T - 1) = 1 ∧ ∃ t, t < T ∧ a = nI t) := by
  rw [nm_sub1 hT]
  unfold md_in
  by_cases h : a < 0
  · exact Or.inl ⟨if_pos h, Or.inl h⟩
  · rw [if_neg h]
    obtain ⟨t, ht, rfl⟩ := nI_of h
    by_cases h3 : nI (T - 1) < nI t
    · rw [if_pos h3]
      refine Or.inl ⟨rfl, Or.inr ?_⟩
      rw [nI_ltI (by omega) ht] at h3
      rw [nI_leI hT2 ht]
      omega
    · rw [if_neg h3]
      rw [nI_ltI (by omega) ht] at h3
      exact Or.inr ⟨rfl, t, by omega, rfl⟩
theorem nm_inc {a : Int32} {T : Nat} (hT2 : T + 1 < 2 ^ 31) {K : Int32} (hK : K = nI T) : (md_in a 0 K = 0 ∧ (a < 0 ∨ nI (T + 1) ≤ a)) ∨ (md_in a 0 K = 1 ∧ ∃ t, t < T + 1 ∧ a = nI t) := by
  have h := nm_in (a := a) (T := T + 1) (by omega) hT2
  rw [nI_pred] at h
  rw [hK]
  exact h
theorem nm_great {a b : Nat} (ha : a < 2 ^ 31) (hb : b < 2 ^ 31) : md_great (nI a) (nI b) = nI (max a b) := by
  unfold md_great
  by_cases h : nI a ≤ nI b
  · rw [if_pos h]
    rw [nI_leI ha hb] at h
    rw [Nat.max_eq_right h]
  · rw [if_neg h]
    rw [nI_leI ha hb] at h
    rw [Nat.max_eq_left (by omega)]
theorem nm_least {a b : Nat} (ha : a < 2 ^ 31) (hb : b < 2 ^ 31) : md_least (nI a) (nI b) = nI (min a b) := by
  unfold md_least
  by_cases h : nI b ≤ nI a
  · rw [if_pos h]
    rw [nI_leI hb ha] at h
    rw [Nat.min_eq_right h]
  · rw [if_neg h]
    rw [nI_leI hb ha] at h
    rw [Nat.min_eq_left (by omega)]
theorem nm_isEmpty {a b c d : Nat} (ha : a < 2 ^ 31) (hb : b < 2 ^ 31) (hc : c < 2 ^ 31) (hd : d < 2 ^ 31) : md_isEmpty (nI a) (nI b) (nI c) (nI d) = if a < c ∧ b < d then 0 else 1 := by
  unfold md_isEmpty
  by_cases h : nI c ≤ nI a
  · rw [if_pos h]
    rw [nI_leI hc ha] at h
    rw [if_neg (by omega)]
  · rw [if_neg h]
    rw [nI_leI hc ha] at h
    by_cases h2 : nI b < nI d
    · rw [if_pos h2]
      rw [nI_ltI hb hd] at h2
      rw [if_pos (by omega)]
    · rw [if_neg h2]
      rw [nI_ltI hb hd] at h2
      rw [if_neg (by omega)]
/-- a tile's number: its column and its line -/
theorem nm_tile {w h k t : Nat} (ht : t < rl_co w k * rl_co h k) : t % rl_co w k < rl_co w k ∧ t / rl_co w k < rl_co h k := by
  have hp : 0 < rl_co w k := Nat.succ_pos _
  exact ⟨Nat.mod_lt _ hp, Nat.div_lt_of_lt_mul ht⟩
theorem nm_lt {w k x : Nat} (hw : 1 ≤ w) (hx : x < rl_co w k) : x * 2 ^ k < w := by
  have hS : 0 < 2 ^ k := Nat.pow_pos (by decide)
  have h : x ≤ (w - 1) / 2 ^ k := by unfold rl_co at hx; omega
  have h3 := (Nat.le_div_iff_mul_le hS).mp h
  omega
theorem nm_left {w k t : Nat} (hw : 1 ≤ w) (hw2 : w ≤ 1024) (h1 : 3 ≤ k) (h2 : k ≤ 6) (ht : t < 2 ^ 31) : tb_left (nI k) (nI (rl_co w k)) (nI t) = nI (t % rl_co w k * 2 ^ k) := by
  have hc := nm_co hw hw2 h1
  have hm : t % rl_co w k < rl_co w k := Nat.mod_lt _ hc.1
  have hl := nm_lt hw hm
  unfold tb_left
  rw [if_neg (nI_nle hc.1 (by omega)), pk_rem ht hc.1 (by omega), nm_shl (by omega) (by omega)]
theorem nm_top {w h k t : Nat} (hw : 1 ≤ w) (hw2 : w ≤ 1024) (hh : 1 ≤ h) (hh2 : h ≤ 1024) (h1 : 3 ≤ k) (h2 : k ≤ 6) (ht : t < rl_co w k * rl_co h k) : tb_top (nI k) (nI (rl_co w k)) (nI t) = nI (t / rl_co w k * 2 ^ k) := by
  have hc := nm_co hw hw2 h1
  have hT := nm_T hw hw2 hh hh2 h1
  have hm := (nm_tile ht).2
  have hl := nm_lt hh hm
  unfold tb_top
  rw [if_neg (nI_nle hc.1 (by omega)), pk_div (by omega) hc.1 (by omega), nm_shl (by omega) (by omega)]
theorem nm_e0 {w h k t : Nat} (hw : 1 ≤ w) (hw2 : w ≤ 1024) (h1 : 3 ≤ k) (h2 : k ≤ 6) (ht : t < 2 ^ 31) : md_edge (nI w) (nI h) (nI (2 ^ k)) (nI t) 0 = nI (t % rl_co w k * 2 ^ k) := by
  have hc := nm_co hw hw2 h1
  unfold md_edge
  rw [if_pos rfl, nm_macross hw hw2 h1 h2, pk_rem ht hc.1 (by omega), pk_mul]
theorem nm_e1 {w h k t : Nat} (hw : 1 ≤ w) (hw2 : w ≤ 1024) (h1 : 3 ≤ k) (h2 : k ≤ 6) (ht : t < 2 ^ 31) : md_edge (nI w) (nI h) (nI (2 ^ k)) (nI t) 1 = nI (t / rl_co w k * 2 ^ k) := by
  have hc := nm_co hw hw2 h1
  unfold md_edge
  rw [if_neg (by decide), if_pos rfl, nm_macross hw hw2 h1 h2, pk_div ht hc.1 (by omega), pk_mul]
theorem nm_e2 {w h k t : Nat} (hw : 1 ≤ w) (hw2 : w ≤ 1024) (h1 : 3 ≤ k) (h2 : k ≤ 6) (ht : t < 2 ^ 31) : md_edge (nI w) (nI h) (nI (2 ^ k)) (nI t) 2 = nI (min (t % rl_co w k * 2 ^ k + 2 ^ k) w) := by
  have hc := nm_co hw hw2 h1
  have hp := nm_pow h1 h2
  have hl := nm_lt hw (Nat.mod_lt t hc.1)
  unfold md_edge
  rw [if_neg (by decide), if_neg (by decide), if_pos rfl, nm_macross hw hw2 h1 h2, pk_rem ht hc.1 (by omega), pk_mul, nI_add, nm_least (by omega) (by omega)]
theorem nm_e3 {w h k t : Nat} (hw : 1 ≤ w) (hw2 : w ≤ 1024) (hh : 1 ≤ h) (hh2 : h ≤ 1024) (h1 : 3 ≤ k) (h2 : k ≤ 6) (ht : t < rl_co w k * rl_co h k) : md_edge (nI w) (nI h) (nI (2 ^ k)) (nI t) 3 = nI (min (t / rl_co w k * 2 ^ k + 2 ^ k) h) := by
  have hc := nm_co hw hw2 h1
  have hT := nm_T hw hw2 hh hh2 h1
  have hp := nm_pow h1 h2
  have hl := nm_lt hh (nm_tile ht).2
  unfold md_edge
  rw [if_neg (by decide), if_neg (by decide), if_neg (by decide), nm_macross hw hw2 h1 h2, pk_div (by omega) hc.1 (by omega), pk_mul, nI_add, nm_least (by omega) (by omega)]
/-- an item and a tile -/
def tch (k co x0 y0 x1 y1 t : Nat) : Prop := (x0 < t % co * 2 ^ k + 2 ^ k ∧ t % co * 2 ^ k < x1) ∧ (y0 < t / co * 2 ^ k + 2 ^ k ∧ t / co * 2 ^ k < y1)
