/-! the steps -/
theorem Inv.mono {n : Nat} (hn : n ≤ 511) {fw fh fs fc fl fe fi ft fo fa : Int32} {an : Nat} {af : Nat → Int32} {gt gw gh gs ge gi gk go ga : Int32} {f1 f2 f3 f4 f5 : Nat → Int32} (hI : Inv n (fw, fh, fs, fc, fl, fe, fi, ft, fo, fa, an, af) (gt, gw, gh, gs, ge, gi, gk, go, ga, f1, f2, f3, f4, f5)) : Inv (n + 1) (fw, fh, fs, fc, fl, fe, fi, ft, fo, fa, an, af) (gt, gw, gh, gs, ge, gi, gk, go, ga, f1, f2, f3, f4, f5) := by
  obtain ⟨w, h, k, cc, N, T, ⟨q1, q2, q3, q4, ⟨hNn, hn5, hTc⟩, q5⟩, hop, hit⟩ := hI
  exact ⟨w, h, k, cc, N, T, ⟨q1, q2, q3, q4, ⟨by omega, by omega, hTc⟩, q5⟩, hop, hit⟩
theorem rs_ok {n : Nat} {G : Nat × Int32 × TBA} {M : Int32 × MDA} {v : Int32} {st : TBA} {sm : MDA} {r bb : Int32} {u : TBA} {um : MDA} {ol o : Nat → Int64} (hG : G = (0, v, st)) (hM : M = (v, sm)) (h0 : sm.1 = 0) (hI : Inv n st sm) (h1 : hl_post G ol r (u, o)) (h2 : (bb, um) = M) : um.1 = r ∧ (r = 0 → o (0 : Int32).toNatClampNeg = bb.toInt64) ∧ Inv n u um := by
  subst hG
  subst hM
  obtain ⟨rfl, rfl⟩ := Prod.mk.inj h2
  rcases h1 with ⟨v', h, hr, ho⟩ | ⟨k, h, -, hk, -⟩
  · obtain ⟨-, h⟩ := Prod.mk.inj h
    obtain ⟨rfl, rfl⟩ := Prod.mk.inj h
    refine ⟨h0.trans hr.symm, fun _ => ?_, hI⟩
    have ho : o = vp_updL ol (0 : Int32).toNatClampNeg v'.toInt64 := ho
    rw [ho, pk_uLs]
  · obtain ⟨rfl, -⟩ := Prod.mk.inj h
    omega
theorem rs_thr {n k : Nat} {G : Nat × Int32 × TBA} {M : Int32 × MDA} {v : Int32} {st : TBA} {sm : MDA} {r bb : Int32} {u : TBA} {um : MDA} {ol o : Nat → Int64} (hk : k = 1 ∨ k = 2) (hG : G = (k, 0, st)) (hM : M = (v, sm)) (h0 : sm.1 = nI k) (hI : Inv n st sm) (h1 : hl_post G ol r (u, o)) (h2 : (bb, um) = M) : um.1 = r ∧ (r = 0 → o (0 : Int32).toNatClampNeg = bb.toInt64) ∧ Inv n u um := by
  subst hG
  subst hM
  obtain ⟨rfl, rfl⟩ := Prod.mk.inj h2
  rcases h1 with ⟨v', h, hr, ho⟩ | ⟨k', h, hr, hk', -⟩
  · obtain ⟨rfl, -⟩ := Prod.mk.inj h
    omega
  · obtain ⟨rfl, h9⟩ := Prod.mk.inj h
    obtain ⟨-, h8⟩ := Prod.mk.inj h9
    have h8 : u = st := h8
    subst h8
    refine ⟨h0.trans hr.symm, fun e => ?_, hI⟩
    rw [hr] at e
    exact absurd e (nI_ne0 (by omega) (by omega))
theorem nm_out {a : Int32} {T q : Nat} (ho : a < 0 ∨ nI T ≤ a) (hq : q < T) (hT : T < 2 ^ 31) : ¬ a = nI q := by
  rintro rfl
  rcases ho with h | h
  · exact nI_pos (by omega) h
  · rw [nI_leI hT (by omega)] at h
    omega
theorem nm_inN {a : Int32} {N : Nat} (hN : N < 2 ^ 31) : (md_in a 0 (nI N - 1) = 0 ∧ (a < 0 ∨ nI N ≤ a)) ∨ (md_in a 0 (nI N - 1) = 1 ∧ ∃ t, t < N ∧ a = nI t) := by
  cases N with
  | succ m => exact nm_in (by omega) hN
  | zero =>
    unfold md_in
    by_cases h : a < 0
    · exact Or.inl ⟨if_pos h, Or.inl h⟩
    · obtain ⟨t, ht, rfl⟩ := nI_of h
      rw [if_neg h, if_pos (show nI 0 - 1 < nI t from Int32.lt_iff_toInt_lt.mpr (by rw [nI_toInt ht]; show (-1 : Int) < _; omega))]
      exact Or.inl ⟨rfl, Or.inr (nI_le (by omega) ht)⟩
theorem nm_in1 {a : Int32} {m : Nat} (hm : m < 2 ^ 31) {K : Int32} (hK : K = nI m) : md_in a 1 K = 0 ∨ (md_in a 1 K = 1 ∧ ∃ t, 1 ≤ t ∧ t ≤ m ∧ a = nI t) := by
  rw [hK]
  unfold md_in
  by_cases h : a < 1
  · exact Or.inl (if_pos h)
  · rw [if_neg h]
    have h0 : ¬ a < 0 := fun h9 => h (by rw [Int32.lt_iff_toInt_lt] at h9 ⊢; have e0 : (0 : Int32).toInt = 0 := rfl; have e1 : (1 : Int32).toInt = 1 := rfl; omega)
    obtain ⟨t, ht, rfl⟩ := nI_of h0
    rw [show (1 : Int32) = nI 1 by decide, nI_ltI ht (by omega)] at h
    by_cases h3 : nI m < nI t
    · exact Or.inl (if_pos h3)
    · rw [if_neg h3]
      rw [nI_ltI hm ht] at h3
      exact Or.inr ⟨rfl, t, by omega, by omega, rfl⟩
theorem tile_same {w h k : Nat} {a1 : Int32} (hw : 1 ≤ w) (hw2 : w ≤ 1024) (hh : 1 ≤ h) (hh2 : h ≤ 1024) (h1 : 3 ≤ k) (h2 : k ≤ 6) : (md_isTile (nI w) (nI h) (nI (2 ^ k)) a1 = 0 ∧ tb_isTile (nI (rl_co w k)) (nI (rl_co h k)) a1 = 0) ∨ (md_isTile (nI w) (nI h) (nI (2 ^ k)) a1 = 1 ∧ tb_isTile (nI (rl_co w k)) (nI (rl_co h k)) a1 = 1 ∧ ∃ t, t < rl_co w k * rl_co h k ∧ a1 = nI t) := by
  have hT := nm_T hw hw2 hh hh2 h1
  unfold md_isTile tb_isTile
  rw [nm_mtiles hw hw2 hh hh2 h1 h2, nm_ttiles]
  rcases nm_in (a := a1) hT.1 (by omega) with ⟨e, ho⟩ | ⟨e, t, ht, rfl⟩
  · refine Or.inl ⟨e, ?_⟩
    rcases ho with ho | ho
    · rw [if_pos ho]
    · by_cases h9 : a1 < 0
      · rw [if_pos h9]
      · rw [if_neg h9, if_pos ho]
  · refine Or.inr ⟨e, ?_, t, ht, rfl⟩
    rw [if_neg (nI_pos (by omega)), if_neg (by rw [nI_leI (by omega) (by omega)]; omega)]
/-- the tile of a place -/
theorem tl_at {w h k x y : Nat} (hx : x < w) (hy : y < h) : (y / 2 ^ k * rl_co w k + x / 2 ^ k) < rl_co w k * rl_co h k ∧ (y / 2 ^ k * rl_co w k + x / 2 ^ k) % rl_co w k = x / 2 ^ k ∧ (y / 2 ^ k * rl_co w k + x / 2 ^ k) / rl_co w k = y / 2 ^ k := by
  have a : x / 2 ^ k < rl_co w k := Nat.lt_succ_of_le (Nat.div_le_div_right (by omega))
  have b : y / 2 ^ k < rl_co h k := Nat.lt_succ_of_le (Nat.div_le_div_right (by omega))
  have hc : 0 < rl_co w k := Nat.succ_pos _
  refine ⟨?_, ?_, ?_⟩
  · have h1 : (y / 2 ^ k + 1) * rl_co w k ≤ rl_co h k * rl_co w k := Nat.mul_le_mul_right _ b
    rw [Nat.add_mul, Nat.one_mul] at h1
    rw [Nat.mul_comm (rl_co w k) (rl_co h k)]
    omega
  · rw [Nat.mul_comm, Nat.mul_add_mod]
    exact Nat.mod_eq_of_lt a
  · rw [Nat.mul_comm, Nat.mul_add_div hc, Nat.div_eq_of_lt a, Nat.add_zero]
theorem sat_iff {w h k x y t : Nat} (hw : 1 ≤ w) (hw2 : w ≤ 1024) (hh : 1 ≤ h) (hh2 : h ≤ 1024) (h1 : 3 ≤ k) (h2 : k ≤ 6) (hx : x < w) (hy : y < h) (ht : t < rl_co w k * rl_co h k) :
    (¬ md_edge (nI w) (nI h) (nI (2 ^ k)) (nI t) 2 ≤ nI x ∧ ¬ md_edge (nI w) (nI h) (nI (2 ^ k)) (nI t) 3 ≤ nI y ∧ ¬ nI x < md_edge (nI w) (nI h) (nI (2 ^ k)) (nI t) 0 ∧ md_edge (nI w) (nI h) (nI (2 ^ k)) (nI t) 1 ≤ nI y) ↔ t = y / 2 ^ k * rl_co w k + x / 2 ^ k := by
  have hp := nm_pow h1 h2
  have hT := nm_T hw hw2 hh hh2 h1
  have hm := nm_tile ht
  have hX := nm_lt hw hm.1
  have hY := nm_lt hh hm.2
  have hS : 0 < 2 ^ k := Nat.pow_pos (by decide)
  rw [nm_e0 hw hw2 h1 h2 (by omega), nm_e1 hw hw2 h1 h2 (by omega), nm_e2 hw hw2 h1 h2 (by omega), nm_e3 hw hw2 hh hh2 h1 h2 ht, nI_leI (by omega) (by omega), nI_leI (by omega) (by omega), nI_ltI (by omega) (by omega), nI_leI (by omega) (by omega)]
  constructor
  · rintro ⟨c1, c2, c3, c4⟩
    have ex : x / 2 ^ k = t % rl_co w k := by
      apply Nat.le_antisymm
      · exact Nat.lt_succ_iff.mp ((Nat.div_lt_iff_lt_mul hS).mpr (by rw [Nat.succ_mul]; omega))
      · exact (Nat.le_div_iff_mul_le hS).mpr (by omega)
    have ey : y / 2 ^ k = t / rl_co w k := by
      apply Nat.le_antisymm
      · exact Nat.lt_succ_iff.mp ((Nat.div_lt_iff_lt_mul hS).mpr (by rw [Nat.succ_mul]; omega))
      · exact (Nat.le_div_iff_mul_le hS).mpr (by omega)
    rw [ex, ey, Nat.mul_comm]
    exact (Nat.div_add_mod t (rl_co w k)).symm
  · intro e
    obtain ⟨-, e1, e2⟩ := tl_at (k := k) hx hy
    rw [← e] at e1 e2
    rw [e1, e2]
    have a1 := Nat.div_mul_le_self x (2 ^ k)
    have a2 := Nat.div_mul_le_self y (2 ^ k)
    have a3 := Nat.lt_div_mul_add (a := x) hS
    have a4 := Nat.lt_div_mul_add (a := y) hS
    refine ⟨?_, ?_, ?_, ?_⟩ <;> omega
theorem srch_at {w h k x y : Nat} (hw : 1 ≤ w) (hw2 : w ≤ 1024) (hh : 1 ≤ h) (hh2 : h ≤ 1024) (h1 : 3 ≤ k) (h2 : k ≤ 6) (hx : x < w) (hy : y < h) : ∀ (d j : Nat), j ≤ y / 2 ^ k * rl_co w k + x / 2 ^ k → y / 2 ^ k * rl_co w k + x / 2 ^ k ≤ j + d → md_srch (nI w) (nI h) (nI (2 ^ k)) (nI x) (nI y) d j = nI (y / 2 ^ k * rl_co w k + x / 2 ^ k) := by
  have hlt := (tl_at (k := k) hx hy).1
  intro d
  induction d with
  | zero =>
    intro j a b
    show nI j = _
    rw [show j = y / 2 ^ k * rl_co w k + x / 2 ^ k by omega]
  | succ d ih =>
    intro j a b
    have hs := sat_iff (t := j) hw hw2 hh hh2 h1 h2 hx hy (by omega)
    rw [md_srch_s]
    by_cases e : j = y / 2 ^ k * rl_co w k + x / 2 ^ k
    · obtain ⟨c1, c2, c3, c4⟩ := hs.mpr e
      rw [if_neg c1, if_neg c2, if_neg c3, if_pos c4, e]
    · have ih := ih (j + 1) (by omega) (by omega)
      by_cases c1 : md_edge (nI w) (nI h) (nI (2 ^ k)) (nI j) 2 ≤ nI x
      · rw [if_pos c1, ih]
      · rw [if_neg c1]
        by_cases c2 : md_edge (nI w) (nI h) (nI (2 ^ k)) (nI j) 3 ≤ nI y
        · rw [if_pos c2, ih]
        · rw [if_neg c2]
          by_cases c3 : nI x < md_edge (nI w) (nI h) (nI (2 ^ k)) (nI j) 0
          · rw [if_pos c3, ih]
          · rw [if_neg c3]
            by_cases c4 : md_edge (nI w) (nI h) (nI (2 ^ k)) (nI j) 1 ≤ nI y
            · exact absurd (hs.mp ⟨c1, c2, c3, c4⟩) e
            · rw [if_neg c4, ih]
theorem min_same {x w : Nat} (hx : x < 2 ^ 31) (hw : w < 2 ^ 31) : (if nI w < nI x then nI w else nI x) = nI (min x w) := by
  by_cases c : nI w < nI x
  · rw [if_pos c]
    rw [nI_ltI hw hx] at c
    rw [Nat.min_eq_right (by omega)]
  · rw [if_neg c]
    rw [nI_ltI hw hx] at c
    rw [Nat.min_eq_left (by omega)]
theorem Inv.pre {n : Nat} (hn : n ≤ 511) {fw fh fs fc fl fe fi ft fo fa : Int32} {an : Nat} {af : Nat → Int32} {gt gw gh gs ge gi gk go ga : Int32} {f1 f2 f3 f4 f5 : Nat → Int32} (hI : Inv n (fw, fh, fs, fc, fl, fe, fi, ft, fo, fa, an, af) (gt, gw, gh, gs, ge, gi, gk, go, ga, f1, f2, f3, f4, f5)) : ∃ N a0 TT : Nat, fi = nI N ∧ N * 6 ≤ an ∧ N ≤ 511 ∧ 6 ≤ an ∧ an ≤ 3072 ∧ fa = nI a0 ∧ a0 ≤ N ∧ ¬ gs = 0 ∧ ¬ md_across gw gs = 0 ∧ gi = nI N ∧ N ≤ 4096 ∧ md_tiles gw gh gs = nI TT ∧ TT < 2 ^ 31 ∧ (0 ≤ go → ga = nI a0 ∧ a0 ≤ N) := by
  obtain ⟨w, h, k, cc, N, T, ⟨⟨hw, hw2⟩, ⟨hh, hh2⟩, ⟨k1, k2⟩, ⟨hc1, hc2⟩, ⟨hNn, hn5, hTc⟩, ⟨rfl, rfl, rfl, rfl, rfl, rfl, rfl, rfl⟩, ⟨rfl, rfl, rfl, rfl, rfl, rfl⟩, ⟨⟨je, hje, rfl⟩, hNan⟩⟩, ⟨hgf, hop, a, haN, rfl⟩, hit⟩ := hI
  subst hgf
  have hp := nm_pow k1 k2
  have hT := nm_T hw hw2 hh hh2 k1
  have hje5 : 2 ^ je ≤ 2 ^ 5 := Nat.pow_le_pow_right (by decide) hje
  have hje0 : 1 ≤ 2 ^ je := Nat.pow_pos (by decide)
  refine ⟨N, a, rl_co w k * rl_co h k, rfl, hNan, by omega, by omega, by omega, rfl, haN, nI_ne0 (by omega) (by omega), ?_, rfl, by omega, nm_mtiles hw hw2 hh hh2 k1 k2, by omega, fun h0 => ?_⟩
  · rw [nm_macross hw hw2 k1 k2]
    have hc := nm_co hw hw2 k1
    exact nI_ne0 (by omega) (by omega)
  · rcases hop with e | ⟨o, ho, e, ef⟩
    · rw [e] at h0
      exact absurd h0 (by decide)
    · exact ⟨ef.symm, haN⟩
theorem Inv.at {n : Nat} {fw fh fs fc fl fe fi ft fo fa : Int32} {an : Nat} {af : Nat → Int32} {gt gw gh gs ge gi gk go ga : Int32} {f1 f2 f3 f4 f5 : Nat → Int32} (hI : Inv n (fw, fh, fs, fc, fl, fe, fi, ft, fo, fa, an, af) (gt, gw, gh, gs, ge, gi, gk, go, ga, f1, f2, f3, f4, f5)) (a1 a2 : Int32) : ∃ t0 : Nat, ¬ md_in a1 0 (gw - 1) = 0 → ¬ md_in a2 0 (gh - 1) = 0 → ¬ md_edge gw gh gs (nI t0) 2 ≤ a1 ∧ ¬ md_edge gw gh gs (nI t0) 3 ≤ a2 ∧ ¬ a1 < md_edge gw gh gs (nI t0) 0 ∧ md_edge gw gh gs (nI t0) 1 ≤ a2 := by
  obtain ⟨w, h, k, cc, N, T, ⟨⟨hw, hw2⟩, ⟨hh, hh2⟩, ⟨k1, k2⟩, ⟨hc1, hc2⟩, ⟨hNn, hn5, hTc⟩, ⟨rfl, rfl, rfl, rfl, rfl, rfl, rfl, rfl⟩, ⟨rfl, rfl, rfl, rfl, rfl, rfl⟩, ⟨⟨je, hje, rfl⟩, hNan⟩⟩, ⟨hgf, hop, a, haN, rfl⟩, hit⟩ := hI
  rcases nm_in (a := a1) hw (by omega) with ⟨e, -⟩ | ⟨-, x, hx, rfl⟩
  · exact ⟨0, fun h => absurd e h⟩
  · rcases nm_in (a := a2) hh (by omega) with ⟨e, -⟩ | ⟨-, y, hy, rfl⟩
    · exact ⟨0, fun _ h => absurd e h⟩
    · exact ⟨y / 2 ^ k * rl_co w k + x / 2 ^ k, fun _ _ => (sat_iff hw hw2 hh hh2 k1 k2 hx hy (tl_at hx hy).1).mpr rfl⟩
theorem st_empty {n : Nat} (hn : n ≤ 511) {fw fh fs fc fl fe fi ft fo fa : Int32} {an : Nat} {af : Nat → Int32} {gt gw gh gs ge gi gk go ga : Int32} {f1 f2 f3 f4 f5 : Nat → Int32} (hI : Inv n (fw, fh, fs, fc, fl, fe, fi, ft, fo, fa, an, af) (gt, gw, gh, gs, ge, gi, gk, go, ga, f1, f2, f3, f4, f5)) : Inv (n + 1) (tb_empty fw fh fs fc fl fe an af) (md_empty gw gh gs ge ga f1 f2 f3 f4 f5) := by
  obtain ⟨w, h, k, cc, N, T, ⟨⟨hw, hw2⟩, ⟨hh, hh2⟩, ⟨k1, k2⟩, ⟨hc1, hc2⟩, ⟨hNn, hn5, hTc⟩, ⟨rfl, rfl, rfl, rfl, rfl, rfl, rfl, rfl⟩, ⟨rfl, rfl, rfl, rfl, rfl, rfl⟩, ⟨⟨je, hje, rfl⟩, hNan⟩⟩, ⟨hgf, hop, a, haN, rfl⟩, hit⟩ := hI
  exact ⟨w, h, k, cc, 0, 0, ⟨⟨hw, hw2⟩, ⟨hh, hh2⟩, ⟨k1, k2⟩, ⟨hc1, hc2⟩, ⟨by omega, by omega, by omega⟩, ⟨rfl, rfl, rfl, rfl, rfl, rfl, rfl, rfl⟩, ⟨rfl, rfl, rfl, rfl, rfl, rfl⟩, ⟨⟨je, hje, rfl⟩, by omega⟩⟩, ⟨rfl, Or.inl rfl, 0, Nat.le_refl 0, rfl⟩, fun j hj => absurd hj (Nat.not_lt_zero j)⟩
theorem st_none {n : Nat} (hn : n ≤ 511) {fw fh fs fc fl fe fi ft fo fa : Int32} {an : Nat} {af : Nat → Int32} {gt gw gh gs ge gi gk go ga : Int32} {f1 f2 f3 f4 f5 : Nat → Int32} (hI : Inv n (fw, fh, fs, fc, fl, fe, fi, ft, fo, fa, an, af) (gt, gw, gh, gs, ge, gi, gk, go, ga, f1, f2, f3, f4, f5)) : Inv (n + 1) (fw, fh, fs, fc, fl, fe, fi, ft, fo, fa, an, af) (gt, gw, gh, gs, ge, gi, gk, go, ga, f1, f2, f3, f4, f5) := by
  exact Inv.mono hn hI
theorem st_new : Inv 0 (tb_new) (md_new) := by
  exact ⟨1, 1, 3, 64, 0, 0, ⟨⟨by decide, by decide⟩, ⟨by decide, by decide⟩, ⟨by decide, by decide⟩, ⟨by decide, by decide⟩, ⟨by decide, by decide, by decide⟩, ⟨by decide, by decide, by decide, by decide, by decide, by decide, by decide, by decide⟩, ⟨by decide, by decide, by decide, by decide, by decide, by decide⟩, ⟨⟨0, by decide, rfl⟩, by decide⟩⟩, ⟨rfl, Or.inl rfl, 0, Nat.le_refl 0, by decide⟩, fun j hj => absurd hj (Nat.not_lt_zero j)⟩
theorem st_count {n : Nat} (hn : n ≤ 511) {fw fh fs fc fl fe fi ft fo fa : Int32} {an : Nat} {af : Nat → Int32} {gt gw gh gs ge gi gk go ga : Int32} {f1 f2 f3 f4 f5 : Nat → Int32} (hI : Inv n (fw, fh, fs, fc, fl, fe, fi, ft, fo, fa, an, af) (gt, gw, gh, gs, ge, gi, gk, go, ga, f1, f2, f3, f4, f5)) {a1 : Int32} {r : Int32} {u : TBA} {ol o : Nat → Int64} {bb : Int32} {um : MDA} (h1 : hl_post (tb_count fw fh fs fc fl fe fi ft fo fa an af a1) ol r (u, o)) (h2 : (bb, um) = md_count gw gh gs ge gi gk go ga f1 f2 f3 f4 f5 a1) : um.1 = r ∧ (r = 0 → o (0 : Int32).toNatClampNeg = bb.toInt64) ∧ Inv (n + 1) u um := by
  have hM : ∀ g9 : Int32, Inv (n + 1) (fw, fh, fs, fc, fl, fe, fi, ft, fo, fa, an, af) (g9, gw, gh, gs, ge, gi, gk, go, ga, f1, f2, f3, f4, f5) := fun _ => Inv.mono hn hI
  obtain ⟨w, h, k, cc, N, T, ⟨⟨hw, hw2⟩, ⟨hh, hh2⟩, ⟨k1, k2⟩, ⟨hc1, hc2⟩, ⟨hNn, hn5, hTc⟩, ⟨rfl, rfl, rfl, rfl, rfl, rfl, rfl, rfl⟩, ⟨rfl, rfl, rfl, rfl, rfl, rfl⟩, ⟨⟨je, hje, rfl⟩, hNan⟩⟩, ⟨hgf, hop, a, haN, rfl⟩, hit⟩ := hI
  subst hgf
  rcases nm_inc (a := a1) (T := 4) (by decide) (K := 4) (by decide) with ⟨e, ho⟩ | ⟨e, t, ht, rfl⟩
  · refine rs_thr (k := 1) (Or.inl rfl) (by unfold tb_count; rw [if_neg (show ¬ a1 = 0 from nm_out (q := 0) ho (by decide) (by decide)), if_neg (show ¬ a1 = 1 from nm_out (q := 1) ho (by decide) (by decide)), if_neg (show ¬ a1 = 2 from nm_out (q := 2) ho (by decide) (by decide)), if_neg (show ¬ a1 = 3 from nm_out (q := 3) ho (by decide) (by decide)), if_neg (show ¬ a1 = 4 from nm_out (q := 4) ho (by decide) (by decide))]) (by unfold md_count; rw [if_pos e]) rfl (hM 1) h1 h2
  · have en : ¬ md_in (nI t) 0 4 = 0 := by rw [e]; decide
    rcases (show t = 0 ∨ t = 1 ∨ t = 2 ∨ t = 3 ∨ t = 4 by omega) with rfl | rfl | rfl | rfl | rfl
    · exact rs_ok (by unfold tb_count; rw [if_pos (by decide)]) (by unfold md_count; rw [if_neg en, if_pos (by decide)]) rfl (hM 0) h1 h2
    · exact rs_ok (by unfold tb_count; rw [if_neg (by decide), if_pos (by decide)]) (by unfold md_count; rw [if_neg en, if_neg (by decide), if_pos (by decide)]) rfl (hM 0) h1 h2
    · exact rs_ok (by unfold tb_count; rw [if_neg (by decide), if_neg (by decide), if_pos (by decide)]) (by unfold md_count; rw [if_neg en, if_neg (by decide), if_neg (by decide), if_pos (by decide)]) rfl (hM 0) h1 h2
    · exact rs_ok (by unfold tb_count; rw [if_neg (by decide), if_neg (by decide), if_neg (by decide), if_pos (by decide), nm_ttiles]) (by unfold md_count; rw [if_neg en, if_neg (by decide), if_neg (by decide), if_neg (by decide), if_pos (by decide), nm_mtiles hw hw2 hh hh2 k1 k2]) rfl (hM 0) h1 h2
    · exact rs_ok (by unfold tb_count; rw [if_neg (by decide), if_neg (by decide), if_neg (by decide), if_neg (by decide), if_pos (by decide)]) (by unfold md_count; rw [if_neg en, if_neg (by decide), if_neg (by decide), if_neg (by decide), if_neg (by decide)]) rfl (hM 0) h1 h2
theorem st_item {n : Nat} (hn : n ≤ 511) {fw fh fs fc fl fe fi ft fo fa : Int32} {an : Nat} {af : Nat → Int32} {gt gw gh gs ge gi gk go ga : Int32} {f1 f2 f3 f4 f5 : Nat → Int32} (hI : Inv n (fw, fh, fs, fc, fl, fe, fi, ft, fo, fa, an, af) (gt, gw, gh, gs, ge, gi, gk, go, ga, f1, f2, f3, f4, f5)) {a1 a2 : Int32} {r : Int32} {u : TBA} {ol o : Nat → Int64} {bb : Int32} {um : MDA} (h1 : hl_post (tb_item fw fh fs fc fl fe fi ft fo fa an af a1 a2) ol r (u, o)) (h2 : (bb, um) = md_item gw gh gs ge gi gk go ga f1 f2 f3 f4 f5 a1 a2) : um.1 = r ∧ (r = 0 → o (0 : Int32).toNatClampNeg = bb.toInt64) ∧ Inv (n + 1) u um := by
  have hM : ∀ g9 : Int32, Inv (n + 1) (fw, fh, fs, fc, fl, fe, fi, ft, fo, fa, an, af) (g9, gw, gh, gs, ge, gi, gk, go, ga, f1, f2, f3, f4, f5) := fun _ => Inv.mono hn hI
  obtain ⟨w, h, k, cc, N, T, ⟨⟨hw, hw2⟩, ⟨hh, hh2⟩, ⟨k1, k2⟩, ⟨hc1, hc2⟩, ⟨hNn, hn5, hTc⟩, ⟨rfl, rfl, rfl, rfl, rfl, rfl, rfl, rfl⟩, ⟨rfl, rfl, rfl, rfl, rfl, rfl⟩, ⟨⟨je, hje, rfl⟩, hNan⟩⟩, ⟨hgf, hop, a, haN, rfl⟩, hit⟩ := hI
  rcases nm_inN (a := a1) (N := N) (by omega) with ⟨e, ho⟩ | ⟨e, j, hj, rfl⟩
  · refine rs_thr (k := 1) (Or.inl rfl) ?_ (by unfold md_item; rw [if_pos e, ite_self]) rfl (hM 1) h1 h2
    unfold tb_item
    by_cases c : a1 < 0
    · rw [if_pos c]
    · rw [if_neg c]
      rcases ho with ho | ho
      · exact absurd ho c
      · rw [if_neg (fun h9 => by rw [Int32.lt_iff_toInt_lt] at h9; rw [Int32.le_iff_toInt_le] at ho; omega)]
  · have en : ¬ md_in (nI j) 0 (nI N - 1) = 0 := by rw [e]; decide
    have cn : ¬ nI j < 0 := nI_pos (by omega)
    have cl : nI j < nI N := nI_lt hj (by omega)
    rcases nm_inc (a := a2) (T := 5) (by decide) (K := 5) (by decide) with ⟨e2, ho⟩ | ⟨e2, i, hi, rfl⟩
    · refine rs_thr (k := 2) (Or.inr rfl) ?_ (by unfold md_item; rw [if_neg en, if_pos e2]) rfl (hM 2) h1 h2
      unfold tb_item
      rw [if_neg cn, if_pos cl]
      by_cases c : a2 < 0
      · rw [if_pos c]
      · rw [if_neg c]
        rcases ho with ho | ho
        · exact absurd ho c
        · rw [if_neg (fun h9 => by rw [show (6 : Int32) = nI (5 + 1) from rfl, Int32.lt_iff_toInt_lt] at h9; rw [Int32.le_iff_toInt_le] at ho; omega)]
    · have en2 : ¬ md_in (nI i) 0 5 = 0 := by rw [e2]; decide
      have hG : tb_item (nI w) (nI h) (nI k) (nI (rl_co w k)) (nI (rl_co h k)) (nI cc) (nI N) (nI T) fo (nI a) (96 * 2 ^ je) af (nI j) (nI i) = (0, af (j * 6 + i), (nI w, nI h, nI k, nI (rl_co w k), nI (rl_co h k), nI cc, nI N, nI T, fo, nI a, 96 * 2 ^ je, af)) := by
        unfold tb_item
        rw [if_neg cn, if_pos cl, if_neg (nI_pos (by omega)), if_pos (show nI i < 6 from nI_lt (b := 6) (by omega) (by omega)), lm_ixv (j := j) (k := i) rfl rfl (by omega)]
      obtain ⟨x0, y0, x1, y1, o, a0, a1, a2, a3, a4, a5, b0, b1, b2, b3⟩ := hit j hj
      have hjc : (nI j).toNatClampNeg = j := nI_clamp (by omega)
      rcases (show i = 0 ∨ i = 1 ∨ i = 2 ∨ i = 3 ∨ i = 4 ∨ i = 5 by omega) with rfl | rfl | rfl | rfl | rfl | rfl
      · exact rs_ok (hG.trans (by rw [a0])) (by unfold md_item; rw [if_neg en, if_neg en2, if_pos (by decide), hjc, b0]) rfl (hM 0) h1 h2
      · exact rs_ok (hG.trans (by rw [a1])) (by unfold md_item; rw [if_neg en, if_neg en2, if_neg (by decide), if_pos (by decide), hjc, b1]) rfl (hM 0) h1 h2
      · exact rs_ok (hG.trans (by rw [a2])) (by unfold md_item; rw [if_neg en, if_neg en2, if_neg (by decide), if_neg (by decide), if_pos (by decide), hjc, b2]) rfl (hM 0) h1 h2
      · exact rs_ok (hG.trans (by rw [a3])) (by unfold md_item; rw [if_neg en, if_neg en2, if_neg (by decide), if_neg (by decide), if_neg (by decide), if_pos (by decide), hjc, b3]) rfl (hM 0) h1 h2
      · exact rs_ok (hG.trans (by rw [a4])) (by unfold md_item; rw [if_neg en, if_neg en2, if_neg (by decide), if_neg (by decide), if_neg (by decide), if_neg (by decide), if_pos (by decide), hjc]) rfl (hM 0) h1 h2
      · exact rs_ok (hG.trans (by rw [a5])) (by unfold md_item; rw [if_neg en, if_neg en2, if_neg (by decide), if_neg (by decide), if_neg (by decide), if_neg (by decide), if_neg (by decide), md_tilesN hw hw2 hh hh2 k1 k2 (by omega) o b0 b1 b2 b3]) rfl (hM 0) h1 h2
theorem st_tile {n : Nat} (hn : n ≤ 511) {fw fh fs fc fl fe fi ft fo fa : Int32} {an : Nat} {af : Nat → Int32} {gt gw gh gs ge gi gk go ga : Int32} {f1 f2 f3 f4 f5 : Nat → Int32} (hI : Inv n (fw, fh, fs, fc, fl, fe, fi, ft, fo, fa, an, af) (gt, gw, gh, gs, ge, gi, gk, go, ga, f1, f2, f3, f4, f5)) {a1 a2 : Int32} {r : Int32} {u : TBA} {ol o : Nat → Int64} {bb : Int32} {um : MDA} (h1 : hl_post (tb_tile fw fh fs fc fl fe fi ft fo fa an af a1 a2) ol r (u, o)) (h2 : (bb, um) = md_tile gw gh gs ge gi gk go ga f1 f2 f3 f4 f5 a1 a2) : um.1 = r ∧ (r = 0 → o (0 : Int32).toNatClampNeg = bb.toInt64) ∧ Inv (n + 1) u um := by
  have hM : ∀ g9 : Int32, Inv (n + 1) (fw, fh, fs, fc, fl, fe, fi, ft, fo, fa, an, af) (g9, gw, gh, gs, ge, gi, gk, go, ga, f1, f2, f3, f4, f5) := fun _ => Inv.mono hn hI
  obtain ⟨w, h, k, cc, N, T, ⟨⟨hw, hw2⟩, ⟨hh, hh2⟩, ⟨k1, k2⟩, ⟨hc1, hc2⟩, ⟨hNn, hn5, hTc⟩, ⟨rfl, rfl, rfl, rfl, rfl, rfl, rfl, rfl⟩, ⟨rfl, rfl, rfl, rfl, rfl, rfl⟩, ⟨⟨je, hje, rfl⟩, hNan⟩⟩, ⟨hgf, hop, a, haN, rfl⟩, hit⟩ := hI
  have hT := nm_T hw hw2 hh hh2 k1
  have hp := nm_pow k1 k2
  rcases tile_same (a1 := a1) hw hw2 hh hh2 k1 k2 with ⟨e, et⟩ | ⟨e, et, t, ht, rfl⟩
  · exact rs_thr (k := 1) (Or.inl rfl) (by unfold tb_tile; rw [if_pos et]) (by unfold md_tile; rw [if_pos e]) rfl (hM 1) h1 h2
  · have en : ¬ md_isTile (nI w) (nI h) (nI (2 ^ k)) (nI t) = 0 := by rw [e]; decide
    have etn : ¬ tb_isTile (nI (rl_co w k)) (nI (rl_co h k)) (nI t) = 0 := by rw [et]; decide
    have hm := nm_tile ht
    have hX := nm_lt hw hm.1
    have hY := nm_lt hh hm.2
    rcases nm_inc (a := a2) (T := 4) (by decide) (K := 4) (by decide) with ⟨e2, ho⟩ | ⟨e2, i, hi, rfl⟩
    · exact rs_thr (k := 1) (Or.inl rfl) (by unfold tb_tile; rw [if_neg etn, if_neg (show ¬ a2 = 0 from nm_out (q := 0) ho (by decide) (by decide)), if_neg (show ¬ a2 = 1 from nm_out (q := 1) ho (by decide) (by decide)), if_neg (show ¬ a2 = 2 from nm_out (q := 2) ho (by decide) (by decide)), if_neg (show ¬ a2 = 3 from nm_out (q := 3) ho (by decide) (by decide)), if_neg (show ¬ a2 = 4 from nm_out (q := 4) ho (by decide) (by decide))]) (by unfold md_tile; rw [if_neg en, if_pos e2]) rfl (hM 1) h1 h2
    · have en2 : ¬ md_in (nI i) 0 4 = 0 := by rw [e2]; decide
      rcases (show i = 0 ∨ i = 1 ∨ i = 2 ∨ i = 3 ∨ i = 4 by omega) with rfl | rfl | rfl | rfl | rfl
      · exact rs_ok (by unfold tb_tile; rw [if_neg etn, if_pos (by decide), nm_left hw hw2 k1 k2 (by omega)]) (by unfold md_tile; rw [if_neg en, if_neg en2, if_neg (by decide), show md_edge (nI w) (nI h) (nI (2 ^ k)) (nI t) (nI 0) = _ from nm_e0 hw hw2 k1 k2 (by omega)]) rfl (hM 0) h1 h2
      · exact rs_ok (by unfold tb_tile; rw [if_neg etn, if_neg (by decide), if_pos (by decide), nm_top hw hw2 hh hh2 k1 k2 ht]) (by unfold md_tile; rw [if_neg en, if_neg en2, if_neg (by decide), show md_edge (nI w) (nI h) (nI (2 ^ k)) (nI t) (nI 1) = _ from nm_e1 hw hw2 k1 k2 (by omega)]) rfl (hM 0) h1 h2
      · exact rs_ok (by unfold tb_tile; rw [if_neg etn, if_neg (by decide), if_neg (by decide), if_pos (by decide), nm_left hw hw2 k1 k2 (by omega), nm_side k1 k2, nI_add, min_same (by omega) (by omega)]) (by unfold md_tile; rw [if_neg en, if_neg en2, if_neg (by decide), show md_edge (nI w) (nI h) (nI (2 ^ k)) (nI t) (nI 2) = _ from nm_e2 hw hw2 k1 k2 (by omega)]) rfl (hM 0) h1 h2
      · exact rs_ok (by unfold tb_tile; rw [if_neg etn, if_neg (by decide), if_neg (by decide), if_neg (by decide), if_pos (by decide), nm_top hw hw2 hh hh2 k1 k2 ht, nm_side k1 k2, nI_add, min_same (by omega) (by omega)]) (by unfold md_tile; rw [if_neg en, if_neg en2, if_neg (by decide), show md_edge (nI w) (nI h) (nI (2 ^ k)) (nI t) (nI 3) = _ from nm_e3 hw hw2 hh hh2 k1 k2 ht]) rfl (hM 0) h1 h2
      · exact rs_ok (by unfold tb_tile; rw [if_neg etn, if_neg (by decide), if_neg (by decide), if_neg (by decide), if_neg (by decide), if_pos (by decide), many_same hw hw2 hh hh2 k1 k2 ht (by omega) hit]) (by unfold md_tile; rw [if_neg en, if_neg en2, if_pos (by decide)]) rfl (hM 0) h1 h2
theorem st_tileOf {n : Nat} (hn : n ≤ 511) {fw fh fs fc fl fe fi ft fo fa : Int32} {an : Nat} {af : Nat → Int32} {gt gw gh gs ge gi gk go ga : Int32} {f1 f2 f3 f4 f5 : Nat → Int32} (hI : Inv n (fw, fh, fs, fc, fl, fe, fi, ft, fo, fa, an, af) (gt, gw, gh, gs, ge, gi, gk, go, ga, f1, f2, f3, f4, f5)) {a1 a2 : Int32} (t0 : Nat) {r : Int32} {u : TBA} {ol o : Nat → Int64} {bb : Int32} {um : MDA} (h1 : hl_post (tb_tileOf fw fh fs fc fl fe fi ft fo fa an af a1 a2) ol r (u, o)) (h2 : (bb, um) = md_tileOf gt gw gh gs ge gi gk go ga f1 f2 f3 f4 f5 a1 a2 t0) (ht0 : ¬ md_in a1 0 (gw - 1) = 0 → ¬ md_in a2 0 (gh - 1) = 0 → ¬ md_edge gw gh gs (nI t0) 2 ≤ a1 ∧ ¬ md_edge gw gh gs (nI t0) 3 ≤ a2 ∧ ¬ a1 < md_edge gw gh gs (nI t0) 0 ∧ md_edge gw gh gs (nI t0) 1 ≤ a2) : um.1 = r ∧ (r = 0 → o (0 : Int32).toNatClampNeg = bb.toInt64) ∧ Inv (n + 1) u um := by
  have hM : ∀ g9 : Int32, Inv (n + 1) (fw, fh, fs, fc, fl, fe, fi, ft, fo, fa, an, af) (g9, gw, gh, gs, ge, gi, gk, go, ga, f1, f2, f3, f4, f5) := fun _ => Inv.mono hn hI
  obtain ⟨w, h, k, cc, N, T, ⟨⟨hw, hw2⟩, ⟨hh, hh2⟩, ⟨k1, k2⟩, ⟨hc1, hc2⟩, ⟨hNn, hn5, hTc⟩, ⟨rfl, rfl, rfl, rfl, rfl, rfl, rfl, rfl⟩, ⟨rfl, rfl, rfl, rfl, rfl, rfl⟩, ⟨⟨je, hje, rfl⟩, hNan⟩⟩, ⟨hgf, hop, a, haN, rfl⟩, hit⟩ := hI
  have hT := nm_T hw hw2 hh hh2 k1
  rcases nm_in (a := a1) hw (by omega) with ⟨e, ho⟩ | ⟨e, x, hx, rfl⟩
  · refine rs_thr (k := 1) (Or.inl rfl) ?_ (by unfold md_tileOf; rw [if_pos e]) rfl (hM 1) h1 h2
    unfold tb_tileOf
    by_cases c : a1 < 0
    · rw [if_pos c]
    · rw [if_neg c, if_pos (ho.resolve_left c)]
  · have en : ¬ md_in (nI x) 0 (nI w - 1) = 0 := by rw [e]; decide
    have c1 : ¬ nI x < 0 := nI_pos (by omega)
    have c2 : ¬ nI w ≤ nI x := by rw [nI_leI (by omega) (by omega)]; omega
    rcases nm_in (a := a2) hh (by omega) with ⟨e2, ho⟩ | ⟨e2, y, hy, rfl⟩
    · refine rs_thr (k := 1) (Or.inl rfl) ?_ (by unfold md_tileOf; rw [if_neg en, if_pos e2]) rfl (hM 1) h1 h2
      unfold tb_tileOf
      rw [if_neg c1, if_neg c2]
      by_cases c : a2 < 0
      · rw [if_pos c]
      · rw [if_neg c, if_neg (fun h9 => by have h8 := ho.resolve_left c; rw [Int32.lt_iff_toInt_lt] at h9; rw [Int32.le_iff_toInt_le] at h8; omega)]
    · have en2 : ¬ md_in (nI y) 0 (nI h - 1) = 0 := by rw [e2]; decide
      have hle := tl_at (k := k) hx hy
      have ha : y / 2 ^ k * rl_co w k + x / 2 ^ k ≤ t0 := by
        rcases Nat.lt_or_ge t0 (y / 2 ^ k * rl_co w k + x / 2 ^ k) with hq | hq
        · have h9 := (sat_iff (t := t0) hw hw2 hh hh2 k1 k2 hx hy (by omega)).mp (ht0 en en2)
          omega
        · exact hq
      refine rs_ok (v := nI (y / 2 ^ k * rl_co w k + x / 2 ^ k)) ?_ (by unfold md_tileOf; rw [if_neg en, if_neg en2, srch_at hw hw2 hh hh2 k1 k2 hx hy t0 0 (by omega) (by omega)]) rfl (hM 0) h1 h2
      unfold tb_tileOf
      rw [if_neg c1, if_neg c2, if_neg (nI_pos (by omega)), if_pos (nI_lt hy (by omega)), nm_shr (by omega) (by omega), nm_shr (by omega) (by omega), pk_mul, nI_add]
theorem st_open {n : Nat} (hn : n ≤ 511) {fw fh fs fc fl fe fi ft fo fa : Int32} {an : Nat} {af : Nat → Int32} {gt gw gh gs ge gi gk go ga : Int32} {f1 f2 f3 f4 f5 : Nat → Int32} (hI : Inv n (fw, fh, fs, fc, fl, fe, fi, ft, fo, fa, an, af) (gt, gw, gh, gs, ge, gi, gk, go, ga, f1, f2, f3, f4, f5)) {a1 : Int32} {r : Int32} {u : TBA} {ol o : Nat → Int64} {bb : Int32} {um : MDA} (h1 : hl_post (tb_open fw fh fs fc fl fe fi ft fo fa an af a1) ol r (u, o)) (h2 : (bb, um) = md_open gw gh gs ge gi gk go ga f1 f2 f3 f4 f5 a1) : um.1 = r ∧ (r = 0 → o (0 : Int32).toNatClampNeg = bb.toInt64) ∧ Inv (n + 1) u um := by
  have hM : ∀ g9 : Int32, Inv (n + 1) (fw, fh, fs, fc, fl, fe, fi, ft, fo, fa, an, af) (g9, gw, gh, gs, ge, gi, gk, go, ga, f1, f2, f3, f4, f5) := fun _ => Inv.mono hn hI
  obtain ⟨w, h, k, cc, N, T, ⟨⟨hw, hw2⟩, ⟨hh, hh2⟩, ⟨k1, k2⟩, ⟨hc1, hc2⟩, ⟨hNn, hn5, hTc⟩, ⟨rfl, rfl, rfl, rfl, rfl, rfl, rfl, rfl⟩, ⟨rfl, rfl, rfl, rfl, rfl, rfl⟩, ⟨⟨je, hje, rfl⟩, hNan⟩⟩, ⟨hgf, hop, a, haN, rfl⟩, hit⟩ := hI
  have hT := nm_T hw hw2 hh hh2 k1
  rcases tile_same (a1 := a1) hw hw2 hh hh2 k1 k2 with ⟨e, et⟩ | ⟨e, et, t, ht, rfl⟩
  · exact rs_thr (k := 1) (Or.inl rfl) (by unfold tb_open; rw [if_pos et]) (by unfold md_open; rw [if_pos e]) rfl (hM 1) h1 h2
  · refine rs_ok (by unfold tb_open; rw [if_neg (by rw [et]; decide)]) (by unfold md_open; rw [if_neg (by rw [e]; decide), many_same hw hw2 hh hh2 k1 k2 ht (by omega) hit]) rfl ?_ h1 h2
    exact ⟨w, h, k, cc, N, T, ⟨⟨hw, hw2⟩, ⟨hh, hh2⟩, ⟨k1, k2⟩, ⟨hc1, hc2⟩, ⟨by omega, by omega, hTc⟩, ⟨rfl, rfl, rfl, rfl, rfl, rfl, rfl, rfl⟩, ⟨rfl, rfl, rfl, rfl, rfl, rfl⟩, ⟨⟨je, hje, rfl⟩, hNan⟩⟩, ⟨rfl, Or.inr ⟨t, ht, rfl, rfl⟩, 0, Nat.zero_le _, rfl⟩, hit⟩
theorem st_next {n : Nat} (hn : n ≤ 511) {fw fh fs fc fl fe fi ft fo fa : Int32} {an : Nat} {af : Nat → Int32} {gt gw gh gs ge gi gk go ga : Int32} {f1 f2 f3 f4 f5 : Nat → Int32} (hI : Inv n (fw, fh, fs, fc, fl, fe, fi, ft, fo, fa, an, af) (gt, gw, gh, gs, ge, gi, gk, go, ga, f1, f2, f3, f4, f5)) {r : Int32} {u : TBA} {ol o : Nat → Int64} {bb : Int32} {um : MDA} (h1 : hl_post (tb_next fw fh fs fc fl fe fi ft fo fa an af) ol r (u, o)) (h2 : (bb, um) = md_next gt gw gh gs ge gi gk go ga f1 f2 f3 f4 f5) : um.1 = r ∧ (r = 0 → o (0 : Int32).toNatClampNeg = bb.toInt64) ∧ Inv (n + 1) u um := by
  have hM : ∀ g9 : Int32, Inv (n + 1) (fw, fh, fs, fc, fl, fe, fi, ft, fo, fa, an, af) (g9, gw, gh, gs, ge, gi, gk, go, ga, f1, f2, f3, f4, f5) := fun _ => Inv.mono hn hI
  obtain ⟨w, h, k, cc, N, T, ⟨⟨hw, hw2⟩, ⟨hh, hh2⟩, ⟨k1, k2⟩, ⟨hc1, hc2⟩, ⟨hNn, hn5, hTc⟩, ⟨rfl, rfl, rfl, rfl, rfl, rfl, rfl, rfl⟩, ⟨rfl, rfl, rfl, rfl, rfl, rfl⟩, ⟨⟨je, hje, rfl⟩, hNan⟩⟩, ⟨hgf, hop, a, haN, rfl⟩, hit⟩ := hI
  subst hgf
  have hT := nm_T hw hw2 hh hh2 k1
  rcases hop with e | ⟨o9, ho, e, ef⟩
  · subst e
    exact rs_thr (k := 1) (Or.inl rfl) (by unfold tb_next; rw [if_pos rfl]) (by unfold md_next; rw [if_neg (by decide)]) rfl (hM 1) h1 h2
  · subst e
    subst ef
    have c1 : ¬ nI o9 = (-1) := fun h9 => by
      have h8 := nI_pos (n := o9) (by omega)
      rw [h9] at h8
      exact h8 (by decide)
    have c2 : (0 : Int32) ≤ nI o9 := nI_pos' (by omega)
    have hnx : md_nx (nI w) (nI h) (nI (2 ^ k)) f1 f2 f3 f4 (nI N) (nI o9) (nI a) = md_adv (nI w) (nI h) (nI (2 ^ k)) f1 f2 f3 f4 (nI o9) (N - a) a := by
      unfold md_nx
      rw [nI_clamp (by omega), nI_clamp (by omega)]
    have hle := adv_le (w := w) (h := h) (k := k) (f1 := f1) (f2 := f2) (f3 := f3) (f4 := f4) (go := nI o9) (N - a) a
    have hfs := fst_same (N := N) hw hw2 hh hh2 k1 k2 ho (by omega) hit (N - a) a (by omega)
    have hfd : tb_find (nI k) (nI (rl_co w k)) (nI N) af (nI o9) (nI a) = if md_adv (nI w) (nI h) (nI (2 ^ k)) f1 f2 f3 f4 (nI o9) (N - a) a = N then -1 else nI (md_adv (nI w) (nI h) (nI (2 ^ k)) f1 f2 f3 f4 (nI o9) (N - a) a) := by
      unfold tb_find
      rw [nm_left hw hw2 k1 k2 (by omega), nm_top hw hw2 hh hh2 k1 k2 ho, nI_clamp (by omega), nI_clamp (by omega)]
      exact hfs
    have key : ∀ J, md_adv (nI w) (nI h) (nI (2 ^ k)) f1 f2 f3 f4 (nI o9) (N - a) a = J → a ≤ J → J ≤ N → um.1 = r ∧ (r = 0 → o (0 : Int32).toNatClampNeg = bb.toInt64) ∧ Inv (n + 1) u um := by
      intro J hJ hJ1 hJ2
      rw [hJ] at hfd hnx
      by_cases cJ : J = N
      · rw [if_pos cJ] at hfd
        refine rs_ok (v := -1) (by unfold tb_next; rw [if_neg c1, hfd, if_pos rfl]) (by unfold md_next; rw [if_pos c2, hnx, cJ, if_pos rfl]) rfl ?_ h1 h2
        exact ⟨w, h, k, cc, N, T, ⟨⟨hw, hw2⟩, ⟨hh, hh2⟩, ⟨k1, k2⟩, ⟨hc1, hc2⟩, ⟨by omega, by omega, hTc⟩, ⟨rfl, rfl, rfl, rfl, rfl, rfl, rfl, rfl⟩, ⟨rfl, rfl, rfl, rfl, rfl, rfl⟩, ⟨⟨je, hje, rfl⟩, hNan⟩⟩, ⟨rfl, Or.inr ⟨o9, ho, rfl, rfl⟩, N, Nat.le_refl _, rfl⟩, hit⟩
      · rw [if_neg cJ] at hfd
        have c3 : ¬ nI J = (-1) := fun h9 => by
          have h8 := nI_pos (n := J) (by omega)
          rw [h9] at h8
          exact h8 (by decide)
        have c4 : ¬ nI J = nI N := by rw [nI_eq (by omega) (by omega)]; exact cJ
        refine rs_ok (v := nI J) (by unfold tb_next; rw [if_neg c1, hfd, if_neg c3]) (by unfold md_next; rw [if_pos c2, hnx, if_neg c4, nI_1, nI_pred]) rfl ?_ h1 h2
        exact ⟨w, h, k, cc, N, T, ⟨⟨hw, hw2⟩, ⟨hh, hh2⟩, ⟨k1, k2⟩, ⟨hc1, hc2⟩, ⟨by omega, by omega, hTc⟩, ⟨rfl, rfl, rfl, rfl, rfl, rfl, rfl, rfl⟩, ⟨rfl, rfl, rfl, rfl, rfl, rfl⟩, ⟨⟨je, hje, rfl⟩, hNan⟩⟩, ⟨rfl, Or.inr ⟨o9, ho, rfl, nI_1 J⟩, J + 1, by omega, nI_1 J⟩, hit⟩
    exact key _ rfl hle.1 (by omega)
