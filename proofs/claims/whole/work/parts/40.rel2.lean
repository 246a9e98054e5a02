/-! the steps of field and put -/
theorem pw_same (a3 : Int32) : (tb_power a3 = (-1) ∧ ¬ a3 = 8 ∧ ¬ a3 = 16 ∧ ¬ a3 = 32 ∧ ¬ a3 = 64) ∨ ∃ k : Nat, 3 ≤ k ∧ k ≤ 6 ∧ a3 = nI (2 ^ k) ∧ tb_power a3 = nI k := by
  unfold tb_power
  by_cases c1 : a3 = 8
  · exact Or.inr ⟨3, by decide, by decide, c1.trans (by decide), by rw [if_pos c1]; decide⟩
  · by_cases c2 : a3 = 16
    · exact Or.inr ⟨4, by decide, by decide, c2.trans (by decide), by rw [if_neg c1, if_pos c2]; decide⟩
    · by_cases c3 : a3 = 32
      · exact Or.inr ⟨5, by decide, by decide, c3.trans (by decide), by rw [if_neg c1, if_neg c2, if_pos c3]; decide⟩
      · by_cases c4 : a3 = 64
        · exact Or.inr ⟨6, by decide, by decide, c4.trans (by decide), by rw [if_neg c1, if_neg c2, if_neg c3, if_pos c4]; decide⟩
        · exact Or.inl ⟨by rw [if_neg c1, if_neg c2, if_neg c3, if_neg c4], c1, c2, c3, c4⟩
theorem pt_ax (a c : Int32) {w : Nat} (hw2 : w ≤ 1024) : ∃ lo hi : Int32, (if a < 0 then 0 else a) = lo ∧ md_great a 0 = lo ∧ (if nI w < c then nI w else c) = hi ∧ md_least c (nI w) = hi ∧ (hi ≤ lo ∨ (¬ hi ≤ lo ∧ ∃ x0 x1 : Nat, x0 < x1 ∧ x1 ≤ w ∧ lo = nI x0 ∧ hi = nI x1)) := by
  have hlo : ∃ x : Nat, x < 2 ^ 31 ∧ (if a < 0 then 0 else a) = nI x ∧ md_great a 0 = nI x := by
    by_cases h : a < 0
    · refine ⟨0, by decide, if_pos h, ?_⟩
      unfold md_great
      rw [if_pos (by rw [Int32.lt_iff_toInt_lt] at h; rw [Int32.le_iff_toInt_le]; omega)]
      decide
    · obtain ⟨t, ht, rfl⟩ := nI_of h
      refine ⟨t, ht, if_neg h, ?_⟩
      rw [show (0 : Int32) = nI 0 by decide, nm_great ht (by decide), Nat.max_eq_left (Nat.zero_le t)]
  obtain ⟨x, hx, e1, e2⟩ := hlo
  have hhi : (if nI w < c then nI w else c) = md_least c (nI w) := by
    unfold md_least
    by_cases h : nI w < c
    · rw [if_pos h, if_pos (by rw [Int32.lt_iff_toInt_lt] at h; rw [Int32.le_iff_toInt_le]; omega)]
    · rw [if_neg h]
      by_cases h2 : nI w ≤ c
      · rw [if_pos h2]
        apply Int32.toInt_inj.mp
        rw [Int32.lt_iff_toInt_lt] at h
        rw [Int32.le_iff_toInt_le] at h2
        omega
      · rw [if_neg h2]
  refine ⟨nI x, md_least c (nI w), e1, e2, hhi, rfl, ?_⟩
  by_cases h : md_least c (nI w) ≤ nI x
  · exact Or.inl h
  · refine Or.inr ⟨h, ?_⟩
    by_cases h0 : c < 0
    · exfalso
      apply h
      unfold md_least
      have hp := nI_toInt (n := w) (by omega)
      have hxp := nI_toInt hx
      rw [if_neg (by rw [Int32.le_iff_toInt_le]; rw [Int32.lt_iff_toInt_lt] at h0; have e0 : (0 : Int32).toInt = 0 := rfl; omega), Int32.le_iff_toInt_le]
      rw [Int32.lt_iff_toInt_lt] at h0
      have e0 : (0 : Int32).toInt = 0 := rfl
      omega
    · obtain ⟨t, ht, rfl⟩ := nI_of h0
      rw [nm_least ht (by omega)] at h ⊢
      rw [nI_leI (by omega) hx] at h
      exact ⟨x, min t w, by omega, by omega, rfl, rfl⟩
/-- the store behind a put -/
def pt_af (fi : Int32) (an : Nat) (af : Nat → Int32) (v0 v1 v2 v3 v4 v5 : Int32) : Nat → Int32 := upd (upd (upd (upd (upd (upd (tb_rf fi an af) ((fi * 6) + 0).toNatClampNeg v0) ((fi * 6) + 1).toNatClampNeg v1) ((fi * 6) + 2).toNatClampNeg v2) ((fi * 6) + 3).toNatClampNeg v3) ((fi * 6) + 4).toNatClampNeg v4) ((fi * 6) + 5).toNatClampNeg v5
theorem rf_keep {N an i : Nat} {af : Nat → Int32} (han : an ≤ 3072) (hi : i < an) : tb_rf (nI N) an af i = af i := by
  unfold tb_rf
  by_cases c : ((nI N + 1) * 6) ≤ nI an
  · rw [if_pos c]
  · rw [if_neg c, nI_clamp (by omega), pk_cpy_in (by show 0 ≤ i; omega) (by show i < 0 + an; omega)]
    show af (0 + (i - 0)) = af i
    rw [Nat.zero_add, Nat.sub_zero]
theorem pt_old {N an j i : Nat} {af : Nat → Int32} {v0 v1 v2 v3 v4 v5 : Int32} (hN : N ≤ 511) (hNb : N * 6 ≤ an) (han : an ≤ 3072) (hj : j < N) (hi : i < 6) : pt_af (nI N) an af v0 v1 v2 v3 v4 v5 (j * 6 + i) = af (j * 6 + i) := by
  unfold pt_af
  rw [lm_ixv (K := 0) (k := 0) (j := N) rfl (by decide) (by omega), lm_ixv (K := 1) (k := 1) (j := N) rfl (by decide) (by omega), lm_ixv (K := 2) (k := 2) (j := N) rfl (by decide) (by omega), lm_ixv (K := 3) (k := 3) (j := N) rfl (by decide) (by omega), lm_ixv (K := 4) (k := 4) (j := N) rfl (by decide) (by omega), lm_ixv (K := 5) (k := 5) (j := N) rfl (by decide) (by omega)]
  rw [pk_un (by omega), pk_un (by omega), pk_un (by omega), pk_un (by omega), pk_un (by omega), pk_un (by omega), rf_keep han (by omega)]
theorem pt_new {N an : Nat} {af : Nat → Int32} {v0 v1 v2 v3 v4 v5 : Int32} (hN : N ≤ 511) : pt_af (nI N) an af v0 v1 v2 v3 v4 v5 (N * 6 + 0) = v0 ∧ pt_af (nI N) an af v0 v1 v2 v3 v4 v5 (N * 6 + 1) = v1 ∧ pt_af (nI N) an af v0 v1 v2 v3 v4 v5 (N * 6 + 2) = v2 ∧ pt_af (nI N) an af v0 v1 v2 v3 v4 v5 (N * 6 + 3) = v3 ∧ pt_af (nI N) an af v0 v1 v2 v3 v4 v5 (N * 6 + 4) = v4 ∧ pt_af (nI N) an af v0 v1 v2 v3 v4 v5 (N * 6 + 5) = v5 := by
  unfold pt_af
  rw [lm_ixv (K := 0) (k := 0) (j := N) rfl (by decide) (by omega), lm_ixv (K := 1) (k := 1) (j := N) rfl (by decide) (by omega), lm_ixv (K := 2) (k := 2) (j := N) rfl (by decide) (by omega), lm_ixv (K := 3) (k := 3) (j := N) rfl (by decide) (by omega), lm_ixv (K := 4) (k := 4) (j := N) rfl (by decide) (by omega), lm_ixv (K := 5) (k := 5) (j := N) rfl (by decide) (by omega)]
  refine ⟨?_, ?_, ?_, ?_, ?_, ?_⟩
  · rw [pk_un (by omega), pk_un (by omega), pk_un (by omega), pk_un (by omega), pk_un (by omega), pk_us]
  · rw [pk_un (by omega), pk_un (by omega), pk_un (by omega), pk_un (by omega), pk_us]
  · rw [pk_un (by omega), pk_un (by omega), pk_un (by omega), pk_us]
  · rw [pk_un (by omega), pk_un (by omega), pk_us]
  · rw [pk_un (by omega), pk_us]
  · rw [pk_us]
theorem rn_ok {N je : Nat} (hN : N ≤ 511) (hje : je ≤ 5) (hNb : N * 6 ≤ 96 * 2 ^ je) : (∃ j : Nat, j ≤ 5 ∧ tb_rn (nI N) (96 * 2 ^ je) = 96 * 2 ^ j) ∧ (N + 1) * 6 ≤ tb_rn (nI N) (96 * 2 ^ je) := by
  have h5 : 2 ^ je ≤ 2 ^ 5 := Nat.pow_le_pow_right (by decide) hje
  have h0 : 1 ≤ 2 ^ je := Nat.pow_pos (by decide)
  have hc : ((nI N + 1) * 6) ≤ nI (96 * 2 ^ je) ↔ (N + 1) * 6 ≤ 96 * 2 ^ je := by rw [nI_1, lm_6, pk_mul, nI_leI (by omega) (by omega)]
  unfold tb_rn
  by_cases c : ((nI N + 1) * 6) ≤ nI (96 * 2 ^ je)
  · rw [if_pos c]
    exact ⟨⟨je, hje, rfl⟩, hc.mp c⟩
  · rw [if_neg c]
    rw [hc] at c
    refine ⟨⟨je + 1, ?_, by rw [Nat.pow_succ]; omega⟩, by omega⟩
    rcases (show je = 5 ∨ je ≤ 4 by omega) with rfl | h
    · omega
    · omega
theorem st_field {n : Nat} (hn : n ≤ 511) {fw fh fs fc fl fe fi ft fo fa : Int32} {an : Nat} {af : Nat → Int32} {gt gw gh gs ge gi gk go ga : Int32} {f1 f2 f3 f4 f5 : Nat → Int32} (hI : Inv n (fw, fh, fs, fc, fl, fe, fi, ft, fo, fa, an, af) (gt, gw, gh, gs, ge, gi, gk, go, ga, f1, f2, f3, f4, f5)) {a1 a2 a3 a4 : Int32} {r : Int32} {u : TBA} {ol o : Nat → Int64} {bb : Int32} {um : MDA} (h1 : hl_post (tb_field fw fh fs fc fl fe fi ft fo fa an af a1 a2 a3 a4) ol r (u, o)) (h2 : (bb, um) = md_field gw gh gs ge gi gk go ga f1 f2 f3 f4 f5 a1 a2 a3 a4) : um.1 = r ∧ (r = 0 → o (0 : Int32).toNatClampNeg = bb.toInt64) ∧ Inv (n + 1) u um := by
  have hM : ∀ g9 : Int32, Inv (n + 1) (fw, fh, fs, fc, fl, fe, fi, ft, fo, fa, an, af) (g9, gw, gh, gs, ge, gi, gk, go, ga, f1, f2, f3, f4, f5) := fun _ => Inv.mono hn hI
  obtain ⟨w, h, k, cc, N, T, ⟨⟨hw, hw2⟩, ⟨hh, hh2⟩, ⟨k1, k2⟩, ⟨hc1, hc2⟩, ⟨hNn, hn5, hTc⟩, ⟨rfl, rfl, rfl, rfl, rfl, rfl, rfl, rfl⟩, ⟨rfl, rfl, rfl, rfl, rfl, rfl⟩, ⟨⟨je, hje, rfl⟩, hNan⟩⟩, ⟨hgf, hop, a, haN, rfl⟩, hit⟩ := hI
  rcases nm_in1 (a := a1) (m := 1024) (by decide) (K := 1024) (by decide) with e | ⟨e, w', w1', w2', rfl⟩
  · exact rs_thr (k := 1) (Or.inl rfl) (by unfold tb_field; rw [if_pos (show tb_within a1 1 1024 = 0 from e)]) (by unfold md_field; rw [if_pos e]) rfl (hM 1) h1 h2
  · have en1 : ¬ md_in (nI w') 1 1024 = 0 := by rw [e]; decide
    have et1 : ¬ tb_within (nI w') 1 1024 = 0 := en1
    rcases nm_in1 (a := a2) (m := 1024) (by decide) (K := 1024) (by decide) with e | ⟨e, h', h1', h2', rfl⟩
    · exact rs_thr (k := 1) (Or.inl rfl) (by unfold tb_field; rw [if_neg et1, if_pos (show tb_within a2 1 1024 = 0 from e)]) (by unfold md_field; rw [if_neg en1, if_pos e]) rfl (hM 1) h1 h2
    · have en2 : ¬ md_in (nI h') 1 1024 = 0 := by rw [e]; decide
      have et2 : ¬ tb_within (nI h') 1 1024 = 0 := en2
      rcases pw_same a3 with ⟨p0, q8, q16, q32, q64⟩ | ⟨k', k1', k2', rfl, hpw⟩
      · exact rs_thr (k := 1) (Or.inl rfl) (by unfold tb_field; rw [if_neg et1, if_neg et2, if_pos p0]) (by unfold md_field; rw [if_neg en1, if_neg en2, if_neg q8, if_neg q16, if_neg q32, if_neg q64]) rfl (hM 1) h1 h2
      · have pn : ¬ tb_power (nI (2 ^ k')) = (-1) := by
          rw [hpw]
          rcases (show k' = 3 ∨ k' = 4 ∨ k' = 5 ∨ k' = 6 by omega) with rfl | rfl | rfl | rfl <;> decide
        have hmd : md_field (nI w) (nI h) (nI (2 ^ k)) (nI cc) (nI N) (nI T) go ga f1 f2 f3 f4 f5 (nI w') (nI h') (nI (2 ^ k')) a4 = if md_in a4 1 8192 = 0 then (0, (1, nI w, nI h, nI (2 ^ k), nI cc, nI N, nI T, go, ga, f1, f2, f3, f4, f5)) else (md_tiles (nI w') (nI h') (nI (2 ^ k')), (0, nI w', nI h', nI (2 ^ k'), a4, 0, 0, (-1), ga, f1, f2, f3, f4, f5)) := by
          unfold md_field
          rw [if_neg en1, if_neg en2]
          rcases (show k' = 3 ∨ k' = 4 ∨ k' = 5 ∨ k' = 6 by omega) with rfl | rfl | rfl | rfl
          · rw [if_pos (by decide)]
          · rw [if_neg (by decide), if_pos (by decide)]
          · rw [if_neg (by decide), if_neg (by decide), if_pos (by decide)]
          · rw [if_neg (by decide), if_neg (by decide), if_neg (by decide), if_pos (by decide)]
        rcases nm_in1 (a := a4) (m := 8192) (by decide) (K := 8192) (by decide) with e | ⟨e, c', c1', c2', rfl⟩
        · exact rs_thr (k := 1) (Or.inl rfl) (by unfold tb_field; rw [if_neg et1, if_neg et2, if_neg pn, if_pos (show tb_within a4 1 8192 = 0 from e)]) (hmd.trans (if_pos e)) rfl (hM 1) h1 h2
        · have en4 : ¬ md_in (nI c') 1 8192 = 0 := by rw [e]; decide
          have et4 : ¬ tb_within (nI c') 1 8192 = 0 := en4
          refine rs_ok (by unfold tb_field; rw [if_neg et1, if_neg et2, if_neg pn, if_neg et4, hpw, nm_tacross0 k2' w1' (by omega), nm_tacross0 k2' h1' (by omega), nm_ttiles]) (hmd.trans ((if_neg en4).trans (by rw [nm_mtiles w1' w2' h1' h2' k1' k2']))) rfl ?_ h1 h2
          exact ⟨w', h', k', c', 0, 0, ⟨⟨w1', w2'⟩, ⟨h1', h2'⟩, ⟨k1', k2'⟩, ⟨c1', c2'⟩, ⟨by omega, by omega, by omega⟩, ⟨rfl, rfl, rfl, rfl, rfl, rfl, rfl, rfl⟩, ⟨rfl, rfl, rfl, rfl, rfl, rfl⟩, ⟨⟨je, hje, rfl⟩, by omega⟩⟩, ⟨rfl, Or.inl rfl, 0, Nat.le_refl 0, rfl⟩, fun j hj => absurd hj (Nat.not_lt_zero j)⟩
theorem st_put {n : Nat} (hn : n ≤ 511) {fw fh fs fc fl fe fi ft fo fa : Int32} {an : Nat} {af : Nat → Int32} {gt gw gh gs ge gi gk go ga : Int32} {f1 f2 f3 f4 f5 : Nat → Int32} (hI : Inv n (fw, fh, fs, fc, fl, fe, fi, ft, fo, fa, an, af) (gt, gw, gh, gs, ge, gi, gk, go, ga, f1, f2, f3, f4, f5)) {a1 a2 a3 a4 a5 : Int32} {r : Int32} {u : TBA} {ol o : Nat → Int64} {bb : Int32} {um : MDA} (h1 : hl_post (tb_put fw fh fs fc fl fe fi ft fo fa an af a1 a2 a3 a4 a5) ol r (u, o)) (h2 : (bb, um) = md_put gw gh gs ge gi gk go ga f1 f2 f3 f4 f5 a1 a2 a3 a4 a5) : um.1 = r ∧ (r = 0 → o (0 : Int32).toNatClampNeg = bb.toInt64) ∧ Inv (n + 1) u um := by
  obtain ⟨w, h, k, cc, N, T, ⟨⟨hw, hw2⟩, ⟨hh, hh2⟩, ⟨k1, k2⟩, ⟨hc1, hc2⟩, ⟨hNn, hn5, hTc⟩, ⟨rfl, rfl, rfl, rfl, rfl, rfl, rfl, rfl⟩, ⟨rfl, rfl, rfl, rfl, rfl, rfl⟩, ⟨⟨je, hje, rfl⟩, hNan⟩⟩, ⟨hgf, hop, a, haN, rfl⟩, hit⟩ := hI
  have hT2 := nm_T hw hw2 hh hh2 k1
  have hp := nm_pow k1 k2
  have hNc : (nI N).toNatClampNeg = N := nI_clamp (by omega)
  have c40 : ¬ (4096 : Int32) ≤ nI N := by rw [show (4096 : Int32) = nI 4096 by decide, nI_leI (by decide) (by omega)]; omega
  have c41 : ¬ nI N = 4096 := by rw [show (4096 : Int32) = nI 4096 by decide, nI_eq (by omega) (by decide)]; omega
  have hje5 : 2 ^ je ≤ 2 ^ 5 := Nat.pow_le_pow_right (by decide) hje
  obtain ⟨lx, hx, ex1, ex2, ex3, ex4, hX⟩ := pt_ax a1 a3 hw2
  obtain ⟨ly, hy, ey1, ey2, ey3, ey4, hY⟩ := pt_ax a2 a4 hh2
  have key : ∃ (X0 Y0 X1 Y1 : Nat) (F1 F2 F3 F4 : Nat → Int32), okr w h X0 Y0 X1 Y1 ∧ (F1 N = nI X0 ∧ F2 N = nI Y0 ∧ F3 N = nI X1 ∧ F4 N = nI Y1) ∧ (∀ j, j < N → F1 j = f1 j ∧ F2 j = f2 j ∧ F3 j = f3 j ∧ F4 j = f4 j) ∧
      tb_put (nI w) (nI h) (nI k) (nI (rl_co w k)) (nI (rl_co h k)) (nI cc) (nI N) (nI T) fo (nI a) (96 * 2 ^ je) af a1 a2 a3 a4 a5 = (if nI (rl_cnt k X0 Y0 X1 Y1) ≤ nI cc - nI T then (0, nI N, (nI w, nI h, nI k, nI (rl_co w k), nI (rl_co h k), nI cc, nI (N + 1), nI (T + rl_cnt k X0 Y0 X1 Y1), fo, nI a, tb_rn (nI N) (96 * 2 ^ je), pt_af (nI N) (96 * 2 ^ je) af (nI X0) (nI Y0) (nI X1) (nI Y1) a5 (nI (rl_cnt k X0 Y0 X1 Y1)))) else (1, 0, (nI w, nI h, nI k, nI (rl_co w k), nI (rl_co h k), nI cc, nI N, nI T, fo, nI a, 96 * 2 ^ je, af))) ∧
      md_put (nI w) (nI h) (nI (2 ^ k)) (nI cc) (nI N) (nI T) go ga f1 f2 f3 f4 f5 a1 a2 a3 a4 a5 = (if nI (rl_cnt k X0 Y0 X1 Y1) ≤ nI cc - nI T then (nI N, (0, nI w, nI h, nI (2 ^ k), nI cc, nI (N + 1), nI (T + rl_cnt k X0 Y0 X1 Y1), go, ga, F1, F2, F3, F4, upd f5 N a5)) else (0, (1, nI w, nI h, nI (2 ^ k), nI cc, nI N, nI T, go, ga, F1, F2, F3, F4, upd f5 N a5))) := by
    rcases Classical.em (hx ≤ lx ∨ (¬ hx ≤ lx ∧ hy ≤ ly)) with hz | hz
    · refine ⟨0, 0, 0, 0, upd (upd f1 N lx) N 0, upd (upd f2 N ly) N 0, upd (upd f3 N hx) N 0, upd (upd f4 N hy) N 0, Or.inr ⟨rfl, rfl, rfl, rfl⟩, ⟨pk_us, pk_us, pk_us, pk_us⟩, fun j hj => ⟨by rw [pk_un (by omega), pk_un (by omega)], by rw [pk_un (by omega), pk_un (by omega)], by rw [pk_un (by omega), pk_un (by omega)], by rw [pk_un (by omega), pk_un (by omega)]⟩, ?_, ?_⟩
      · rw [show rl_cnt k 0 0 0 0 = 0 from rfl, nI_0, Nat.add_zero T]
        unfold tb_put pt_af
        rw [ex1, ex3, ey1, ey3]
        rcases hz with hz | ⟨hz1, hz⟩
        · rw [if_pos hz, if_neg c40, Int32.add_zero, nI_1, nI_pred]
        · rw [if_neg hz1, if_pos hz, if_neg c40, Int32.add_zero, nI_1, nI_pred]
      · unfold md_put
        rw [if_neg c41, ex2, ex4, ey2, ey4, hNc, pk_us, pk_us, pk_us, pk_us]
        have hE : ¬ md_isEmpty lx ly hx hy = 0 := by
          unfold md_isEmpty
          rcases hz with hz | ⟨hz1, hz⟩
          · rw [if_pos hz]; decide
          · rw [if_neg hz1, if_neg (fun h9 => by rw [Int32.lt_iff_toInt_lt] at h9; rw [Int32.le_iff_toInt_le] at hz; omega)]; decide
        rw [if_neg hE, md_tilesN (j := N) (x0 := 0) (y0 := 0) (x1 := 0) (y1 := 0) (f1 := upd (upd f1 N lx) N 0) (f2 := upd (upd f2 N ly) N 0) (f3 := upd (upd f3 N hx) N 0) (f4 := upd (upd f4 N hy) N 0) hw hw2 hh hh2 k1 k2 (by omega) (Or.inr ⟨rfl, rfl, rfl, rfl⟩) (pk_us.trans nI_0.symm) (pk_us.trans nI_0.symm) (pk_us.trans nI_0.symm) (pk_us.trans nI_0.symm), nI_1, nI_add]
    rcases hX with hX | ⟨hX, x0, x1, hx01, hx1w, rfl, rfl⟩
    · exact absurd (Or.inl hX) hz
    · rcases hY with hY | ⟨hY, y0, y1, hy01, hy1h, rfl, rfl⟩
      · exact absurd (Or.inr ⟨hX, hY⟩) hz
      · have ho : okr w h x0 y0 x1 y1 := Or.inl ⟨hx01, hx1w, hy01, hy1h⟩
        have hcn : nI ((x1 - 1) / 2 ^ k - x0 / 2 ^ k + 1) * nI ((y1 - 1) / 2 ^ k - y0 / 2 ^ k + 1) = nI (rl_cnt k x0 y0 x1 y1) := by
          unfold rl_cnt
          rw [if_pos hx01, pk_mul]
        refine ⟨x0, y0, x1, y1, upd f1 N (nI x0), upd f2 N (nI y0), upd f3 N (nI x1), upd f4 N (nI y1), ho, ⟨pk_us, pk_us, pk_us, pk_us⟩, fun j hj => ⟨by rw [pk_un (by omega)], by rw [pk_un (by omega)], by rw [pk_un (by omega)], by rw [pk_un (by omega)]⟩, ?_, ?_⟩
        · unfold tb_put pt_af
          rw [ex1, ex3, ey1, ey3, if_neg hX, if_neg hY, if_neg c40, nm_tacross k2 hx01 (by omega), nm_tacross k2 hy01 (by omega), hcn, nI_1, nI_pred, nI_add]
        · unfold md_put
          rw [if_neg c41, ex2, ex4, ey2, ey4, hNc, pk_us, pk_us, pk_us, pk_us, nm_isEmpty (by omega) (by omega) (by omega) (by omega), if_pos (show x0 < x1 ∧ y0 < y1 from ⟨hx01, hy01⟩), if_pos rfl, md_tilesN (j := N) hw hw2 hh hh2 k1 k2 (by omega) ho pk_us pk_us pk_us pk_us, nI_1, nI_add]
  obtain ⟨X0, Y0, X1, Y1, F1, F2, F3, F4, ho, ⟨n0, n1, n2, n3⟩, hold, hC, hMd⟩ := key
  have hle := rl_cnt_le ho hw hw2 hh hh2 k1
  have hsub : nI cc - nI T = nI (cc - T) := pk_sub hTc
  by_cases hfit : nI (rl_cnt k X0 Y0 X1 Y1) ≤ nI cc - nI T
  · refine rs_ok (hC.trans (if_pos hfit)) (hMd.trans (if_pos hfit)) rfl ?_ h1 h2
    rw [hsub, nI_leI (by omega) (by omega)] at hfit
    have hrn := rn_ok (show N ≤ 511 by omega) hje hNan
    refine ⟨w, h, k, cc, N + 1, T + rl_cnt k X0 Y0 X1 Y1, ⟨⟨hw, hw2⟩, ⟨hh, hh2⟩, ⟨k1, k2⟩, ⟨hc1, hc2⟩, ⟨by omega, by omega, by omega⟩, ⟨rfl, rfl, rfl, rfl, rfl, rfl, rfl, rfl⟩, ⟨rfl, rfl, rfl, rfl, rfl, rfl⟩, hrn⟩, ⟨hgf, hop, a, by omega, rfl⟩, fun j hj => ?_⟩
    rcases Nat.lt_or_ge j N with hjN | hjN
    · obtain ⟨x0, y0, x1, y1, o, b0, b1, b2, b3, b4, b5, d0, d1, d2, d3⟩ := hit j hjN
      obtain ⟨g0, g1, g2, g3⟩ := hold j hjN
      exact ⟨x0, y0, x1, y1, o, (pt_old (by omega) hNan (by omega) hjN (by decide)).trans b0, (pt_old (by omega) hNan (by omega) hjN (by decide)).trans b1, (pt_old (by omega) hNan (by omega) hjN (by decide)).trans b2, (pt_old (by omega) hNan (by omega) hjN (by decide)).trans b3, ((pt_old (by omega) hNan (by omega) hjN (by decide)).trans b4).trans (pk_un (by omega)).symm, (pt_old (by omega) hNan (by omega) hjN (by decide)).trans b5, g0.trans d0, g1.trans d1, g2.trans d2, g3.trans d3⟩
    · obtain rfl : j = N := by omega
      obtain ⟨b0, b1, b2, b3, b4, b5⟩ := pt_new (N := j) (an := 96 * 2 ^ je) (af := af) (v0 := nI X0) (v1 := nI Y0) (v2 := nI X1) (v3 := nI Y1) (v4 := a5) (v5 := nI (rl_cnt k X0 Y0 X1 Y1)) (by omega)
      exact ⟨X0, Y0, X1, Y1, ho, b0, b1, b2, b3, b4.trans pk_us.symm, b5, n0, n1, n2, n3⟩
  · refine rs_thr (k := 1) (Or.inl rfl) (hC.trans (if_neg hfit)) (hMd.trans (if_neg hfit)) rfl ?_ h1 h2
    refine ⟨w, h, k, cc, N, T, ⟨⟨hw, hw2⟩, ⟨hh, hh2⟩, ⟨k1, k2⟩, ⟨hc1, hc2⟩, ⟨by omega, by omega, hTc⟩, ⟨rfl, rfl, rfl, rfl, rfl, rfl, rfl, rfl⟩, ⟨rfl, rfl, rfl, rfl, rfl, rfl⟩, ⟨⟨je, hje, rfl⟩, hNan⟩⟩, ⟨hgf, hop, a, haN, rfl⟩, fun j hj => ?_⟩
    obtain ⟨x0, y0, x1, y1, o, b0, b1, b2, b3, b4, b5, d0, d1, d2, d3⟩ := hit j hj
    obtain ⟨g0, g1, g2, g3⟩ := hold j hj
    exact ⟨x0, y0, x1, y1, o, b0, b1, b2, b3, b4.trans (pk_un (by omega)).symm, b5, g0.trans d0, g1.trans d1, g2.trans d2, g3.trans d3⟩
