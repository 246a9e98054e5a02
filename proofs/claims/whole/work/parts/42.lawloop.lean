set_option maxHeartbeats 4000000 in
set_option maxRecDepth 100000 in
theorem law_loop {p : Program} {l : Launch} {e : Env} {s : State} {m : MethodId} {below : List Frame} {meth : Method} {c : Code} {dC : Nat → ClassId} {dI : Nat → Nat → Nat} {b L : Nat} {xs : Nat → Int32} (hl9 : l.stackTraces = false) (hL : L ≤ 3072) (C0 : lw_At p s m meth c b L xs) (hZ : tbZ (fun q : Nat => s.heap.size ≤ q) s s.heap) (d : Nat) {H : Heap} {locs : List Loc} {ls : Array Slot} (h : lawI dC dI s b d H locs ls) : W p l e room_1 s m #[Value.ref b] below meth c H locs (600 - d) (3200000 - 6144 * d) (lw_Z below #[Value.ref b] s) (F0 m 23 ls []) := by
  obtain ⟨hx, hb, hr, hml, hown, hts0, hX, hbl, hlocks, hgv⟩ := C0
  have hts : ∀ w ∈ gb, w.before #[Value.ref b] s = true := fun w h => hts0 w (gb_in w h).1
  have hA : ∀ q : Nat, s.heap.size ≤ q → (fun q : Nat => s.heap.size ≤ q) q := fun _ h => h
  have hbA : ¬ (fun q : Nat => s.heap.size ≤ q) b := Nat.not_le.mpr hbl
  refine loopC (fun d => 600 - d) (fun d => 3200000 - 6144 * d) (lawI dC dI s b) (fun d H locs ls hI0 ih => ?_) d h
  clear h
  obtain ⟨n, h0, q1, q2, g0, r1, r2, r3, r4, r5, cA, cJ, cB1, cB2, cB3, cB4, cB5, fw, fh, fs, fc, fl, fe, fi, ft, fo, fa, an, af, ol, gt, gw, gh, gs, ge, gi, gk, go, ga, f1, f2, f3, f4, f5, hnd, hI, hP, hK, hD, hS, hl⟩ := hI0
  show W p l e room_1 s m #[Value.ref b] below meth c H locs (600 - d) (3200000 - 6144 * d) (lw_Z below #[Value.ref b] s) (F0 m 23 ls [])
  have ih : ∀ (d' : Nat) (H' : Heap) (locs' : List Loc) (ls' : Array Slot), d' < d → lawI dC dI s b d' H' locs' ls' → W p l e room_1 s m #[Value.ref b] below meth c H' locs' (600 - d') (3200000 - 6144 * d') (lw_Z below #[Value.ref b] s) (F0 m 23 ls' []) := ih
  refine lv_iload hx hb dL_law_23 (lv_at hl 0 rfl) ?_
  refine lv_aload_n hx hb dL_law_25 rfl (lv_at hl 4 rfl) ?_
  refine va_slen hx hb hX hbl hbA hS dL_law_26 ?_
  refine lv_bipush (v := 6) hx hb dL_law_27 (by first | rfl | decide) ?_
  refine lv_isub hx hb dL_law_29 ?_
  refine lv_icmp_gt (tgt := 665) hx hb dL_law_30 (by decide) (fun c_1 => ?_) (fun c_1 => ?_)
  · refine lv_iconst (v := 1) hx hb dL_law_665 (by decide) ?_
    refine va_forget (fun q hq => hS.2.2 q hq) ?_
    refine W.widen (k := 601024) (n := 7293034) (by show (600 - d) ≤ 601024; omega) (by show (3200000 - 6144 * d) ≤ 7293034; omega) ?_
    exact lw_ret hx hb hr hlocks dL_law_666
  · have hgo := lw_go hL (by omega) c_1
    have hn9 : n ≤ 511 := by omega
    obtain ⟨N, a0, TT, hN, hNb, hN5, han0, han, ha0, ha0N, hs0, hac, hN2, hN4, hT, hT31, hgo0⟩ := Inv.pre hn9 hI
    refine lv_aload_n hx hb dL_law_33 rfl (lv_at hl 4 rfl) ?_
    refine lv_iload hx hb dL_law_34 (lv_at hl 0 rfl) ?_
    refine va_sld hx hb hX hbl hbA hS (lw_ix0 hL hgo) dL_law_36 ?_
    refine lv_bipush (v := 15) hx hb dL_law_37 (by first | rfl | decide) ?_
    refine lv_iand hx hb dL_law_39 ?_
    rcases Classical.em (((xs (nI (6 * n)).toNatClampNeg) &&& 15) = 0) with c_2 | c_2
    · refine lv_tableIn (off := 52) (tgt := 92) hx hb dL_law_40 (by rw [c_2]; decide) (by rw [c_2]; decide) (by rw [c_2]; rfl) (by decide) ?_
      refine lv_aload_n hx hb dL_law_92 rfl (lv_at hl 3 rfl) ?_
      refine lv_aload_n hx hb dL_law_93 rfl (lv_at hl 4 rfl) ?_
      refine lv_iload hx hb dL_law_94 (lv_at hl 0 rfl) ?_
      refine lv_iconst (v := 1) hx hb dL_law_96 (by first | rfl | decide) ?_
      refine lv_iadd hx hb dL_law_97 ?_
      refine va_sld hx hb hX hbl hbA hS (lw_ix (k := 1) (by decide) (by decide) hL hgo) dL_law_98 ?_
      refine lv_aload_n hx hb dL_law_99 rfl (lv_at hl 4 rfl) ?_
      refine lv_iload hx hb dL_law_100 (lv_at hl 0 rfl) ?_
      refine lv_iconst (v := 2) hx hb dL_law_102 (by first | rfl | decide) ?_
      refine lv_iadd hx hb dL_law_103 ?_
      refine va_sld hx hb hX hbl hbA hS (lw_ix (k := 2) (by decide) (by decide) hL hgo) dL_law_104 ?_
      refine lv_aload_n hx hb dL_law_105 rfl (lv_at hl 4 rfl) ?_
      refine lv_iload hx hb dL_law_106 (lv_at hl 0 rfl) ?_
      refine lv_iconst (v := 3) hx hb dL_law_108 (by first | rfl | decide) ?_
      refine lv_iadd hx hb dL_law_109 ?_
      refine va_sld hx hb hX hbl hbA hS (lw_ix (k := 3) (by decide) (by decide) hL hgo) dL_law_110 ?_
      refine lv_aload_n hx hb dL_law_111 rfl (lv_at hl 4 rfl) ?_
      refine lv_iload hx hb dL_law_112 (lv_at hl 0 rfl) ?_
      refine lv_iconst (v := 4) hx hb dL_law_114 (by first | rfl | decide) ?_
      refine lv_iadd hx hb dL_law_115 ?_
      refine va_sld hx hb hX hbl hbA hS (lw_ix (k := 4) (by decide) (by decide) hL hgo) dL_law_116 ?_
      refine lv_aload_n hx hb dL_law_117 rfl (lv_at hl 1 rfl) ?_
      have hPc := hP.sub (ws' := [(h0, .inr (0, [.int fw, .int fh, .int fs, .int fc, .int fl, .int fe, .ref q1, .int fi, .int ft, .int fo, .int fa])), (q1, .inl (cA, an, .inl af)), (q2, .inl (cJ, 1, .inr (.inl ol)))]) [0, 1, 2] rfl
      have hDc := hD.sub (ws' := [(h0, .inr (0, [.int fw, .int fh, .int fs, .int fc, .int fl, .int fe, .ref q1, .int fi, .int ft, .int fo, .int fa])), (q1, .inl (cA, an, .inl af)), (q2, .inl (cJ, 1, .inr (.inl ol)))]) [0, 1, 2] (by decide) rfl
      have hKc := hK.sub (tys' := [(cA, .int), (cJ, .long)]) [0, 1] rfl
      have hFc := va_free (wc := [(h0, .inr (0, [.int fw, .int fh, .int fs, .int fc, .int fl, .int fe, .ref q1, .int fi, .int ft, .int fo, .int fa])), (q1, .inl (cA, an, .inl af)), (q2, .inl (cJ, 1, .inr (.inl ol)))]) hD hS hA [0, 1, 2] rfl
      refine va_calli (vx_runSW (As := [.ref h0, .int (xs ((nI (6 * n)) + 1).toNatClampNeg), .int (xs ((nI (6 * n)) + 2).toNatClampNeg), .int (xs ((nI (6 * n)) + 3).toNatClampNeg), .int (xs ((nI (6 * n)) + 4).toNatClampNeg), .ref q2]) (rest := []) ⟨hx, hb, hml, hown, hts⟩ (mtL_field l hl9 dC dI h0 q1 q2 cA cJ fw fh fs fc fl fe fi ft fo fa an af ol H.size (xs ((nI (6 * n)) + 1).toNatClampNeg) (xs ((nI (6 * n)) + 2).toNatClampNeg) (xs ((nI (6 * n)) + 3).toNatClampNeg) (xs ((nI (6 * n)) + 4).toNatClampNeg) ) (vx_cwSW 6 hts (gb_s kw_92 kw_93 kw_21 kw_94) rfl rfl rfl (by decide +kernel) ⟨Nat.le_of_ble_eq_true rfl, Nat.le_of_ble_eq_true rfl⟩) ⟨zz_P.blind, zz_P.at hPc hKc hDc (hZ.kept hS.2.1) hFc⟩ rfl rfl hl.1 rfl (lv_room (Nat.le_of_ble_eq_true rfl)) dL_law_118 ⟨(by show (600 - d) + 1 ≤ 601024; omega), (by show (3200000 - 6144 * d) + 6 ≤ 7293034; omega)⟩) hS (fun q _ h => hFc q h) hFc (fun r u t H1 locs ht hvm hw1 hB hz1 hk1 hS => ?_)
      obtain ⟨⟨fw_3, fh_4, fs_5, fc_6, fl_7, fe_8, fi_9, ft_10, fo_11, fa_12, an_13, af_14⟩, ol_18⟩ := u
      obtain ⟨q1_15, cA_16, cJ_17, hP1, hK1, hD1⟩ := hB
      rw [ht] at hP1
      have hK1 := va_K.moved hvm.symm hK1
      obtain ⟨hP, hD⟩ := va_join (wr := [(g0, .inr (1, [.int gt, .int gw, .int gh, .int gs, .int ge, .int gi, .int gk, .ref r1, .ref r2, .ref r3, .ref r4, .ref r5, .int go, .int ga])), (r1, .inl (cB1, 4096, .inl f1)), (r2, .inl (cB2, 4096, .inl f2)), (r3, .inl (cB3, 4096, .inl f3)), (r4, .inl (cB4, 4096, .inl f4)), (r5, .inl (cB5, 4096, .inl f5))]) (w1 := [(h0, .inr (0, [.int fw_3, .int fh_4, .int fs_5, .int fc_6, .int fl_7, .int fe_8, .ref q1_15, .int fi_9, .int ft_10, .int fo_11, .int fa_12])), (q1_15, .inl (cA_16, an_13, .inl af_14)), (q2, .inl (cJ_17, 1, .inr (.inl ol_18)))]) hP hD [0, 1, 2] [3, 4, 5, 6, 7, 8] rfl rfl (by decide) (by decide) hk1 hFc hP1 hD1
      have hK := (hK.sub (tys' := [(cB1, .int), (cB2, .int), (cB3, .int), (cB4, .int), (cB5, .int)]) [2, 3, 4, 5, 6] rfl).app hK1
      generalize H1 = H at hP hS ⊢
      have hP := hP.sub (ws' := [(h0, .inr (0, [.int fw_3, .int fh_4, .int fs_5, .int fc_6, .int fl_7, .int fe_8, .ref q1_15, .int fi_9, .int ft_10, .int fo_11, .int fa_12])), (q1_15, .inl (cA_16, an_13, .inl af_14)), (q2, .inl (cJ_17, 1, .inr (.inl ol_18))), (g0, .inr (1, [.int gt, .int gw, .int gh, .int gs, .int ge, .int gi, .int gk, .ref r1, .ref r2, .ref r3, .ref r4, .ref r5, .int go, .int ga])), (r1, .inl (cB1, 4096, .inl f1)), (r2, .inl (cB2, 4096, .inl f2)), (r3, .inl (cB3, 4096, .inl f3)), (r4, .inl (cB4, 4096, .inl f4)), (r5, .inl (cB5, 4096, .inl f5))]) [6, 7, 8, 0, 1, 2, 3, 4, 5] rfl
      have hD := hD.sub (ws' := [(h0, .inr (0, [.int fw_3, .int fh_4, .int fs_5, .int fc_6, .int fl_7, .int fe_8, .ref q1_15, .int fi_9, .int ft_10, .int fo_11, .int fa_12])), (q1_15, .inl (cA_16, an_13, .inl af_14)), (q2, .inl (cJ_17, 1, .inr (.inl ol_18))), (g0, .inr (1, [.int gt, .int gw, .int gh, .int gs, .int ge, .int gi, .int gk, .ref r1, .ref r2, .ref r3, .ref r4, .ref r5, .int go, .int ga])), (r1, .inl (cB1, 4096, .inl f1)), (r2, .inl (cB2, 4096, .inl f2)), (r3, .inl (cB3, 4096, .inl f3)), (r4, .inl (cB4, 4096, .inl f4)), (r5, .inl (cB5, 4096, .inl f5))]) [6, 7, 8, 0, 1, 2, 3, 4, 5] (by decide) rfl
      have hK := hK.sub (tys' := [(cA_16, .int), (cJ_17, .long), (cB1, .int), (cB2, .int), (cB3, .int), (cB4, .int), (cB5, .int)]) [5, 6, 0, 1, 2, 3, 4] rfl
      refine lv_istore (lv' := [(5, .int r), (4, .int (nI (6 * n))), (3, .ref q2), (2, .ref g0), (1, .ref h0), (0, .ref b)]) hx hb dL_law_121 hl (by decide) rfl (fun ls hl => ?_)
      refine lv_aload_n hx hb dL_law_123 rfl (lv_at hl 3 rfl) ?_
      refine lv_aload_n hx hb dL_law_124 rfl (lv_at hl 5 rfl) ?_
      refine lv_iload hx hb dL_law_125 (lv_at hl 1 rfl) ?_
      refine lv_iconst (v := 1) hx hb dL_law_127 (by first | rfl | decide) ?_
      refine lv_iadd hx hb dL_law_128 ?_
      refine va_sld hx hb hX hbl hbA hS (lw_ix (k := 1) (by decide) (by decide) hL hgo) dL_law_129 ?_
      refine lv_aload_n hx hb dL_law_130 rfl (lv_at hl 5 rfl) ?_
      refine lv_iload hx hb dL_law_131 (lv_at hl 1 rfl) ?_
      refine lv_iconst (v := 2) hx hb dL_law_133 (by first | rfl | decide) ?_
      refine lv_iadd hx hb dL_law_134 ?_
      refine va_sld hx hb hX hbl hbA hS (lw_ix (k := 2) (by decide) (by decide) hL hgo) dL_law_135 ?_
      refine lv_aload_n hx hb dL_law_136 rfl (lv_at hl 5 rfl) ?_
      refine lv_iload hx hb dL_law_137 (lv_at hl 1 rfl) ?_
      refine lv_iconst (v := 3) hx hb dL_law_139 (by first | rfl | decide) ?_
      refine lv_iadd hx hb dL_law_140 ?_
      refine va_sld hx hb hX hbl hbA hS (lw_ix (k := 3) (by decide) (by decide) hL hgo) dL_law_141 ?_
      refine lv_aload_n hx hb dL_law_142 rfl (lv_at hl 5 rfl) ?_
      refine lv_iload hx hb dL_law_143 (lv_at hl 1 rfl) ?_
      refine lv_iconst (v := 4) hx hb dL_law_145 (by first | rfl | decide) ?_
      refine lv_iadd hx hb dL_law_146 ?_
      refine va_sld hx hb hX hbl hbA hS (lw_ix (k := 4) (by decide) (by decide) hL hgo) dL_law_147 ?_
      have hPc := hP.sub (ws' := [(g0, .inr (1, [.int gt, .int gw, .int gh, .int gs, .int ge, .int gi, .int gk, .ref r1, .ref r2, .ref r3, .ref r4, .ref r5, .int go, .int ga])), (r1, .inl (cB1, 4096, .inl f1)), (r2, .inl (cB2, 4096, .inl f2)), (r3, .inl (cB3, 4096, .inl f3)), (r4, .inl (cB4, 4096, .inl f4)), (r5, .inl (cB5, 4096, .inl f5))]) [3, 4, 5, 6, 7, 8] rfl
      have hDc := hD.sub (ws' := [(g0, .inr (1, [.int gt, .int gw, .int gh, .int gs, .int ge, .int gi, .int gk, .ref r1, .ref r2, .ref r3, .ref r4, .ref r5, .int go, .int ga])), (r1, .inl (cB1, 4096, .inl f1)), (r2, .inl (cB2, 4096, .inl f2)), (r3, .inl (cB3, 4096, .inl f3)), (r4, .inl (cB4, 4096, .inl f4)), (r5, .inl (cB5, 4096, .inl f5))]) [3, 4, 5, 6, 7, 8] (by decide) rfl
      have hKc := hK.sub (tys' := [(cB1, .int), (cB2, .int), (cB3, .int), (cB4, .int), (cB5, .int)]) [2, 3, 4, 5, 6] rfl
      have hFc := va_free (wc := [(g0, .inr (1, [.int gt, .int gw, .int gh, .int gs, .int ge, .int gi, .int gk, .ref r1, .ref r2, .ref r3, .ref r4, .ref r5, .int go, .int ga])), (r1, .inl (cB1, 4096, .inl f1)), (r2, .inl (cB2, 4096, .inl f2)), (r3, .inl (cB3, 4096, .inl f3)), (r4, .inl (cB4, 4096, .inl f4)), (r5, .inl (cB5, 4096, .inl f5))]) hD hS hA [3, 4, 5, 6, 7, 8] rfl
      refine va_calli (va_runV (As := [.int (xs ((nI (6 * n)) + 1).toNatClampNeg), .int (xs ((nI (6 * n)) + 2).toNatClampNeg), .int (xs ((nI (6 * n)) + 3).toNatClampNeg), .int (xs ((nI (6 * n)) + 4).toNatClampNeg)]) (rest := []) ⟨hx, hb, hml, hown, hts⟩ (mtX1_field l dC dI g0 r1 r2 r3 r4 r5 cB1 cB2 cB3 cB4 cB5 gt gw gh gs ge gi gk go ga f1 f2 f3 f4 f5 H.size (xs ((nI (6 * n)) + 1).toNatClampNeg) (xs ((nI (6 * n)) + 2).toNatClampNeg) (xs ((nI (6 * n)) + 3).toNatClampNeg) (xs ((nI (6 * n)) + 4).toNatClampNeg) ) (cwV 4 hts (gb_v kw_374 kw_375 kw_376 kw_23 kw_377) rfl rfl rfl (by decide +kernel) ⟨Nat.le_of_ble_eq_true rfl, Nat.le_of_ble_eq_true rfl⟩) ⟨mu_P.blind, va_recv hKc hPc (ci := 1) (q0 := 0) rfl rfl, mu_P.at hPc hKc hDc⟩ rfl rfl hl.1 rfl (lv_room (Nat.le_of_ble_eq_true rfl)) dL_law_148 ⟨(by show ((600 - d) + 1) + 0 ≤ 601024; omega), (by show ((3200000 - 6144 * d) + 6) + 0 ≤ 7293034; omega)⟩) hS (fun q _ h => hFc q h) hFc (fun bb u t H1 locs ht hvm hw2 hB hz1 hk1 hS => ?_)
      obtain ⟨gt_19, gw_20, gh_21, gs_22, ge_23, gi_24, gk_25, go_26, ga_27, f1_28, f2_29, f3_30, f4_31, f5_32⟩ := u
      obtain ⟨r1_33, r2_34, r3_35, r4_36, r5_37, cB1_38, cB2_39, cB3_40, cB4_41, cB5_42, hP1, hK1, hD1⟩ := hB
      rw [ht] at hP1
      have hK1 := va_K.moved hvm.symm hK1
      obtain ⟨hP, hD⟩ := va_join (wr := [(h0, .inr (0, [.int fw_3, .int fh_4, .int fs_5, .int fc_6, .int fl_7, .int fe_8, .ref q1_15, .int fi_9, .int ft_10, .int fo_11, .int fa_12])), (q1_15, .inl (cA_16, an_13, .inl af_14)), (q2, .inl (cJ_17, 1, .inr (.inl ol_18)))]) (w1 := [(g0, .inr (1, [.int gt_19, .int gw_20, .int gh_21, .int gs_22, .int ge_23, .int gi_24, .int gk_25, .ref r1_33, .ref r2_34, .ref r3_35, .ref r4_36, .ref r5_37, .int go_26, .int ga_27])), (r1_33, .inl (cB1_38, 4096, .inl f1_28)), (r2_34, .inl (cB2_39, 4096, .inl f2_29)), (r3_35, .inl (cB3_40, 4096, .inl f3_30)), (r4_36, .inl (cB4_41, 4096, .inl f4_31)), (r5_37, .inl (cB5_42, 4096, .inl f5_32))]) hP hD [3, 4, 5, 6, 7, 8] [0, 1, 2] rfl rfl (by decide) (by decide) hk1 hFc hP1 hD1
      have hK := (hK.sub (tys' := [(cA_16, .int), (cJ_17, .long)]) [0, 1] rfl).app hK1
      generalize H1 = H at hP hS ⊢
      have hP := hP.sub (ws' := [(h0, .inr (0, [.int fw_3, .int fh_4, .int fs_5, .int fc_6, .int fl_7, .int fe_8, .ref q1_15, .int fi_9, .int ft_10, .int fo_11, .int fa_12])), (q1_15, .inl (cA_16, an_13, .inl af_14)), (q2, .inl (cJ_17, 1, .inr (.inl ol_18))), (g0, .inr (1, [.int gt_19, .int gw_20, .int gh_21, .int gs_22, .int ge_23, .int gi_24, .int gk_25, .ref r1_33, .ref r2_34, .ref r3_35, .ref r4_36, .ref r5_37, .int go_26, .int ga_27])), (r1_33, .inl (cB1_38, 4096, .inl f1_28)), (r2_34, .inl (cB2_39, 4096, .inl f2_29)), (r3_35, .inl (cB3_40, 4096, .inl f3_30)), (r4_36, .inl (cB4_41, 4096, .inl f4_31)), (r5_37, .inl (cB5_42, 4096, .inl f5_32))]) [0, 1, 2, 3, 4, 5, 6, 7, 8] rfl
      have hD := hD.sub (ws' := [(h0, .inr (0, [.int fw_3, .int fh_4, .int fs_5, .int fc_6, .int fl_7, .int fe_8, .ref q1_15, .int fi_9, .int ft_10, .int fo_11, .int fa_12])), (q1_15, .inl (cA_16, an_13, .inl af_14)), (q2, .inl (cJ_17, 1, .inr (.inl ol_18))), (g0, .inr (1, [.int gt_19, .int gw_20, .int gh_21, .int gs_22, .int ge_23, .int gi_24, .int gk_25, .ref r1_33, .ref r2_34, .ref r3_35, .ref r4_36, .ref r5_37, .int go_26, .int ga_27])), (r1_33, .inl (cB1_38, 4096, .inl f1_28)), (r2_34, .inl (cB2_39, 4096, .inl f2_29)), (r3_35, .inl (cB3_40, 4096, .inl f3_30)), (r4_36, .inl (cB4_41, 4096, .inl f4_31)), (r5_37, .inl (cB5_42, 4096, .inl f5_32))]) [0, 1, 2, 3, 4, 5, 6, 7, 8] (by decide) rfl
      have hK := hK.sub (tys' := [(cA_16, .int), (cJ_17, .long), (cB1_38, .int), (cB2_39, .int), (cB3_40, .int), (cB4_41, .int), (cB5_42, .int)]) [0, 1, 2, 3, 4, 5, 6] rfl
      have hst := st_field hn9 hI hw1 hw2
      obtain ⟨e1, e2, hI⟩ := hst
      refine lv_istore (lv' := [(6, .int bb), (5, .int r), (4, .int (nI (6 * n))), (3, .ref q2), (2, .ref g0), (1, .ref h0), (0, .ref b)]) hx hb dL_law_151 hl (by decide) rfl (fun ls hl => ?_)
      refine lv_aload_n hx hb dL_law_153 rfl (lv_at hl 4 rfl) ?_
      refine ro_calli (va_runV (As := []) (rest := []) ⟨hx, hb, hml, hown, hts⟩ (mtX1_thrown l dC dI g0 r1_33 r2_34 r3_35 r4_36 r5_37 cB1_38 cB2_39 cB3_40 cB4_41 cB5_42 gt_19 gw_20 gh_21 gs_22 ge_23 gi_24 gk_25 go_26 ga_27 f1_28 f2_29 f3_30 f4_31 f5_32 H.size) (cwV 0 hts (gb_v kw_370 kw_371 kw_372 kw_23 kw_373) rfl rfl rfl (by decide +kernel) ⟨Nat.le_of_ble_eq_true rfl, Nat.le_of_ble_eq_true rfl⟩) ⟨ro_P.blind, va_recv hK hP (ci := 1) (q0 := 3) rfl rfl, ro_P.at (hP.sub [3, 4, 5, 6, 7, 8] rfl) (hK.sub [2, 3, 4, 5, 6] rfl)⟩ rfl rfl hl.1 rfl (lv_room (Nat.le_of_ble_eq_true rfl)) dL_law_154 ⟨(by show ((600 - d) + 1) + 0 ≤ 601024; omega), (by show ((3200000 - 6144 * d) + 6) + 0 ≤ 7293034; omega)⟩) hP hS hA (fun H locs hP hS hz hk => ?_)
      refine lv_iload hx hb dL_law_157 (lv_at hl 1 rfl) ?_
      refine lv_icmp_eq (tgt := 164) hx hb dL_law_159 (by decide) (fun c_43 => ?_) (fun c_43 => ?_)
      · refine lv_iload hx hb dL_law_164 (lv_at hl 1 rfl) ?_
        refine lv_if_ne (tgt := 181) hx hb dL_law_166 (by decide) (fun c_44 => ?_) (fun c_44 => ?_)
        · refine lv_goto (tgt := 659) hx hb dL_law_181 (by decide) ?_
          refine lv_iinc (v := nI (6 * n) + 6) (lv' := [(4, .int (nI (6 * n) + 6)), (6, .int bb), (5, .int r), (3, .ref q2), (2, .ref g0), (1, .ref h0), (0, .ref b)]) hx hb dL_law_659 hl (k := 2) rfl (by rfl) (by decide) rfl (fun ls hl => ?_)
          refine lv_goto (tgt := 23) hx hb dL_law_662 (by decide) ?_
          rw [show nI (6 * n) + 6 = nI (6 * (n + 1)) by rw [lm_6, nI_add]; rfl] at hl
          refine W.widen (k := 600 - (d - 1)) (n := 3200000 - 6144 * (d - 1)) (by show ((600 - d) + 1) ≤ _; omega) (by show ((3200000 - 6144 * d) + 6) ≤ _; omega) ?_
          exact ih (d - 1) _ _ _ (by omega) ⟨n + 1, h0, q1_15, q2, g0, r1_33, r2_34, r3_35, r4_36, r5_37, cA_16, cJ_17, cB1_38, cB2_39, cB3_40, cB4_41, cB5_42, fw_3, fh_4, fs_5, fc_6, fl_7, fe_8, fi_9, ft_10, fo_11, fa_12, an_13, af_14, ol_18, gt_19, gw_20, gh_21, gs_22, ge_23, gi_24, gk_25, go_26, ga_27, f1_28, f2_29, f3_30, f4_31, f5_32, by omega, hI, hP, hK, hD, hS, lv_sub hl [0, 3, 4, 5, 6] rfl⟩
        · refine lv_aload_n hx hb dL_law_169 rfl (lv_at hl 3 rfl) ?_
          refine lv_iconst (v := 0) hx hb dL_law_170 (by first | rfl | decide) ?_
          refine va_lald hx hb hK hP 2 1 rfl rfl lm_01 dL_law_171 ?_
          refine lv_iload hx hb dL_law_172 (lv_at hl 0 rfl) ?_
          refine lv_i2l (v := bb.toInt64) hx hb dL_law_174 rfl ?_
          refine W.lcmp hx hb dL_law_175 ?_
          refine lv_if_eq (tgt := 181) hx hb dL_law_176 (by decide) (fun c_45 => ?_) (fun c_45 => ?_)
          · refine lv_goto (tgt := 659) hx hb dL_law_181 (by decide) ?_
            refine lv_iinc (v := nI (6 * n) + 6) (lv' := [(4, .int (nI (6 * n) + 6)), (6, .int bb), (5, .int r), (3, .ref q2), (2, .ref g0), (1, .ref h0), (0, .ref b)]) hx hb dL_law_659 hl (k := 2) rfl (by rfl) (by decide) rfl (fun ls hl => ?_)
            refine lv_goto (tgt := 23) hx hb dL_law_662 (by decide) ?_
            rw [show nI (6 * n) + 6 = nI (6 * (n + 1)) by rw [lm_6, nI_add]; rfl] at hl
            refine W.widen (k := 600 - (d - 1)) (n := 3200000 - 6144 * (d - 1)) (by show ((600 - d) + 1) ≤ _; omega) (by show ((3200000 - 6144 * d) + 6) ≤ _; omega) ?_
            exact ih (d - 1) _ _ _ (by omega) ⟨n + 1, h0, q1_15, q2, g0, r1_33, r2_34, r3_35, r4_36, r5_37, cA_16, cJ_17, cB1_38, cB2_39, cB3_40, cB4_41, cB5_42, fw_3, fh_4, fs_5, fc_6, fl_7, fe_8, fi_9, ft_10, fo_11, fa_12, an_13, af_14, ol_18, gt_19, gw_20, gh_21, gs_22, ge_23, gi_24, gk_25, go_26, ga_27, f1_28, f2_29, f3_30, f4_31, f5_32, by omega, hI, hP, hK, hD, hS, lv_sub hl [0, 3, 4, 5, 6] rfl⟩
          · exact absurd ((lg_cmp_eq _ _).mpr (e2 c_44)) c_45
      · exact absurd e1 c_43
    · rcases Classical.em (((xs (nI (6 * n)).toNatClampNeg) &&& 15) = 1) with c_46 | c_46
      · refine lv_tableIn (off := 144) (tgt := 184) hx hb dL_law_40 (by rw [c_46]; decide) (by rw [c_46]; decide) (by rw [c_46]; rfl) (by decide) ?_
        refine lv_aload_n hx hb dL_law_184 rfl (lv_at hl 3 rfl) ?_
        refine lv_aload_n hx hb dL_law_185 rfl (lv_at hl 4 rfl) ?_
        refine lv_iload hx hb dL_law_186 (lv_at hl 0 rfl) ?_
        refine lv_iconst (v := 1) hx hb dL_law_188 (by first | rfl | decide) ?_
        refine lv_iadd hx hb dL_law_189 ?_
        refine va_sld hx hb hX hbl hbA hS (lw_ix (k := 1) (by decide) (by decide) hL hgo) dL_law_190 ?_
        refine lv_aload_n hx hb dL_law_191 rfl (lv_at hl 4 rfl) ?_
        refine lv_iload hx hb dL_law_192 (lv_at hl 0 rfl) ?_
        refine lv_iconst (v := 2) hx hb dL_law_194 (by first | rfl | decide) ?_
        refine lv_iadd hx hb dL_law_195 ?_
        refine va_sld hx hb hX hbl hbA hS (lw_ix (k := 2) (by decide) (by decide) hL hgo) dL_law_196 ?_
        refine lv_aload_n hx hb dL_law_197 rfl (lv_at hl 4 rfl) ?_
        refine lv_iload hx hb dL_law_198 (lv_at hl 0 rfl) ?_
        refine lv_iconst (v := 3) hx hb dL_law_200 (by first | rfl | decide) ?_
        refine lv_iadd hx hb dL_law_201 ?_
        refine va_sld hx hb hX hbl hbA hS (lw_ix (k := 3) (by decide) (by decide) hL hgo) dL_law_202 ?_
        refine lv_aload_n hx hb dL_law_203 rfl (lv_at hl 4 rfl) ?_
        refine lv_iload hx hb dL_law_204 (lv_at hl 0 rfl) ?_
        refine lv_iconst (v := 4) hx hb dL_law_206 (by first | rfl | decide) ?_
        refine lv_iadd hx hb dL_law_207 ?_
        refine va_sld hx hb hX hbl hbA hS (lw_ix (k := 4) (by decide) (by decide) hL hgo) dL_law_208 ?_
        refine lv_aload_n hx hb dL_law_209 rfl (lv_at hl 4 rfl) ?_
        refine lv_iload hx hb dL_law_210 (lv_at hl 0 rfl) ?_
        refine lv_iconst (v := 5) hx hb dL_law_212 (by first | rfl | decide) ?_
        refine lv_iadd hx hb dL_law_213 ?_
        refine va_sld hx hb hX hbl hbA hS (lw_ix (k := 5) (by decide) (by decide) hL hgo) dL_law_214 ?_
        refine lv_aload_n hx hb dL_law_215 rfl (lv_at hl 1 rfl) ?_
        have hPc := hP.sub (ws' := [(h0, .inr (0, [.int fw, .int fh, .int fs, .int fc, .int fl, .int fe, .ref q1, .int fi, .int ft, .int fo, .int fa])), (q1, .inl (cA, an, .inl af)), (q2, .inl (cJ, 1, .inr (.inl ol)))]) [0, 1, 2] rfl
        have hDc := hD.sub (ws' := [(h0, .inr (0, [.int fw, .int fh, .int fs, .int fc, .int fl, .int fe, .ref q1, .int fi, .int ft, .int fo, .int fa])), (q1, .inl (cA, an, .inl af)), (q2, .inl (cJ, 1, .inr (.inl ol)))]) [0, 1, 2] (by decide) rfl
        have hKc := hK.sub (tys' := [(cA, .int), (cJ, .long)]) [0, 1] rfl
        have hFc := va_free (wc := [(h0, .inr (0, [.int fw, .int fh, .int fs, .int fc, .int fl, .int fe, .ref q1, .int fi, .int ft, .int fo, .int fa])), (q1, .inl (cA, an, .inl af)), (q2, .inl (cJ, 1, .inr (.inl ol)))]) hD hS hA [0, 1, 2] rfl
        refine va_calli (vx_runSW (As := [.ref h0, .int (xs ((nI (6 * n)) + 1).toNatClampNeg), .int (xs ((nI (6 * n)) + 2).toNatClampNeg), .int (xs ((nI (6 * n)) + 3).toNatClampNeg), .int (xs ((nI (6 * n)) + 4).toNatClampNeg), .int (xs ((nI (6 * n)) + 5).toNatClampNeg), .ref q2]) (rest := []) ⟨hx, hb, hml, hown, hts⟩ (mtL_put l hl9 dC dI h0 q1 q2 cA cJ fw fh fs fc fl fe fi ft fo fa an af ol H.size (xs ((nI (6 * n)) + 1).toNatClampNeg) (xs ((nI (6 * n)) + 2).toNatClampNeg) (xs ((nI (6 * n)) + 3).toNatClampNeg) (xs ((nI (6 * n)) + 4).toNatClampNeg) (xs ((nI (6 * n)) + 5).toNatClampNeg) N hN hNb hN5 han0 han) (vx_cwSW 7 hts (gb_s kw_180 kw_181 kw_21 kw_182) rfl rfl rfl (by decide +kernel) ⟨Nat.le_of_ble_eq_true rfl, Nat.le_of_ble_eq_true rfl⟩) ⟨zz_P.blind, zz_P.at hPc hKc hDc (hZ.kept hS.2.1) hFc⟩ rfl rfl hl.1 rfl (lv_room (Nat.le_of_ble_eq_true rfl)) dL_law_216 ⟨(by show (600 - d) + 1 ≤ 601024; omega), (by show (3200000 - 6144 * d) + 6144 ≤ 7293034; omega)⟩) hS (fun q _ h => hFc q h) hFc (fun r u t H1 locs ht hvm hw1 hB hz1 hk1 hS => ?_)
        obtain ⟨⟨fw_47, fh_48, fs_49, fc_50, fl_51, fe_52, fi_53, ft_54, fo_55, fa_56, an_57, af_58⟩, ol_62⟩ := u
        obtain ⟨q1_59, cA_60, cJ_61, hP1, hK1, hD1⟩ := hB
        rw [ht] at hP1
        have hK1 := va_K.moved hvm.symm hK1
        obtain ⟨hP, hD⟩ := va_join (wr := [(g0, .inr (1, [.int gt, .int gw, .int gh, .int gs, .int ge, .int gi, .int gk, .ref r1, .ref r2, .ref r3, .ref r4, .ref r5, .int go, .int ga])), (r1, .inl (cB1, 4096, .inl f1)), (r2, .inl (cB2, 4096, .inl f2)), (r3, .inl (cB3, 4096, .inl f3)), (r4, .inl (cB4, 4096, .inl f4)), (r5, .inl (cB5, 4096, .inl f5))]) (w1 := [(h0, .inr (0, [.int fw_47, .int fh_48, .int fs_49, .int fc_50, .int fl_51, .int fe_52, .ref q1_59, .int fi_53, .int ft_54, .int fo_55, .int fa_56])), (q1_59, .inl (cA_60, an_57, .inl af_58)), (q2, .inl (cJ_61, 1, .inr (.inl ol_62)))]) hP hD [0, 1, 2] [3, 4, 5, 6, 7, 8] rfl rfl (by decide) (by decide) hk1 hFc hP1 hD1
        have hK := (hK.sub (tys' := [(cB1, .int), (cB2, .int), (cB3, .int), (cB4, .int), (cB5, .int)]) [2, 3, 4, 5, 6] rfl).app hK1
        generalize H1 = H at hP hS ⊢
        have hP := hP.sub (ws' := [(h0, .inr (0, [.int fw_47, .int fh_48, .int fs_49, .int fc_50, .int fl_51, .int fe_52, .ref q1_59, .int fi_53, .int ft_54, .int fo_55, .int fa_56])), (q1_59, .inl (cA_60, an_57, .inl af_58)), (q2, .inl (cJ_61, 1, .inr (.inl ol_62))), (g0, .inr (1, [.int gt, .int gw, .int gh, .int gs, .int ge, .int gi, .int gk, .ref r1, .ref r2, .ref r3, .ref r4, .ref r5, .int go, .int ga])), (r1, .inl (cB1, 4096, .inl f1)), (r2, .inl (cB2, 4096, .inl f2)), (r3, .inl (cB3, 4096, .inl f3)), (r4, .inl (cB4, 4096, .inl f4)), (r5, .inl (cB5, 4096, .inl f5))]) [6, 7, 8, 0, 1, 2, 3, 4, 5] rfl
        have hD := hD.sub (ws' := [(h0, .inr (0, [.int fw_47, .int fh_48, .int fs_49, .int fc_50, .int fl_51, .int fe_52, .ref q1_59, .int fi_53, .int ft_54, .int fo_55, .int fa_56])), (q1_59, .inl (cA_60, an_57, .inl af_58)), (q2, .inl (cJ_61, 1, .inr (.inl ol_62))), (g0, .inr (1, [.int gt, .int gw, .int gh, .int gs, .int ge, .int gi, .int gk, .ref r1, .ref r2, .ref r3, .ref r4, .ref r5, .int go, .int ga])), (r1, .inl (cB1, 4096, .inl f1)), (r2, .inl (cB2, 4096, .inl f2)), (r3, .inl (cB3, 4096, .inl f3)), (r4, .inl (cB4, 4096, .inl f4)), (r5, .inl (cB5, 4096, .inl f5))]) [6, 7, 8, 0, 1, 2, 3, 4, 5] (by decide) rfl
        have hK := hK.sub (tys' := [(cA_60, .int), (cJ_61, .long), (cB1, .int), (cB2, .int), (cB3, .int), (cB4, .int), (cB5, .int)]) [5, 6, 0, 1, 2, 3, 4] rfl
        refine lv_istore (lv' := [(5, .int r), (4, .int (nI (6 * n))), (3, .ref q2), (2, .ref g0), (1, .ref h0), (0, .ref b)]) hx hb dL_law_219 hl (by decide) rfl (fun ls hl => ?_)
        refine lv_aload_n hx hb dL_law_221 rfl (lv_at hl 3 rfl) ?_
        refine lv_aload_n hx hb dL_law_222 rfl (lv_at hl 5 rfl) ?_
        refine lv_iload hx hb dL_law_223 (lv_at hl 1 rfl) ?_
        refine lv_iconst (v := 1) hx hb dL_law_225 (by first | rfl | decide) ?_
        refine lv_iadd hx hb dL_law_226 ?_
        refine va_sld hx hb hX hbl hbA hS (lw_ix (k := 1) (by decide) (by decide) hL hgo) dL_law_227 ?_
        refine lv_aload_n hx hb dL_law_228 rfl (lv_at hl 5 rfl) ?_
        refine lv_iload hx hb dL_law_229 (lv_at hl 1 rfl) ?_
        refine lv_iconst (v := 2) hx hb dL_law_231 (by first | rfl | decide) ?_
        refine lv_iadd hx hb dL_law_232 ?_
        refine va_sld hx hb hX hbl hbA hS (lw_ix (k := 2) (by decide) (by decide) hL hgo) dL_law_233 ?_
        refine lv_aload_n hx hb dL_law_234 rfl (lv_at hl 5 rfl) ?_
        refine lv_iload hx hb dL_law_235 (lv_at hl 1 rfl) ?_
        refine lv_iconst (v := 3) hx hb dL_law_237 (by first | rfl | decide) ?_
        refine lv_iadd hx hb dL_law_238 ?_
        refine va_sld hx hb hX hbl hbA hS (lw_ix (k := 3) (by decide) (by decide) hL hgo) dL_law_239 ?_
        refine lv_aload_n hx hb dL_law_240 rfl (lv_at hl 5 rfl) ?_
        refine lv_iload hx hb dL_law_241 (lv_at hl 1 rfl) ?_
        refine lv_iconst (v := 4) hx hb dL_law_243 (by first | rfl | decide) ?_
        refine lv_iadd hx hb dL_law_244 ?_
        refine va_sld hx hb hX hbl hbA hS (lw_ix (k := 4) (by decide) (by decide) hL hgo) dL_law_245 ?_
        refine lv_aload_n hx hb dL_law_246 rfl (lv_at hl 5 rfl) ?_
        refine lv_iload hx hb dL_law_247 (lv_at hl 1 rfl) ?_
        refine lv_iconst (v := 5) hx hb dL_law_249 (by first | rfl | decide) ?_
        refine lv_iadd hx hb dL_law_250 ?_
        refine va_sld hx hb hX hbl hbA hS (lw_ix (k := 5) (by decide) (by decide) hL hgo) dL_law_251 ?_
        have hPc := hP.sub (ws' := [(g0, .inr (1, [.int gt, .int gw, .int gh, .int gs, .int ge, .int gi, .int gk, .ref r1, .ref r2, .ref r3, .ref r4, .ref r5, .int go, .int ga])), (r1, .inl (cB1, 4096, .inl f1)), (r2, .inl (cB2, 4096, .inl f2)), (r3, .inl (cB3, 4096, .inl f3)), (r4, .inl (cB4, 4096, .inl f4)), (r5, .inl (cB5, 4096, .inl f5))]) [3, 4, 5, 6, 7, 8] rfl
        have hDc := hD.sub (ws' := [(g0, .inr (1, [.int gt, .int gw, .int gh, .int gs, .int ge, .int gi, .int gk, .ref r1, .ref r2, .ref r3, .ref r4, .ref r5, .int go, .int ga])), (r1, .inl (cB1, 4096, .inl f1)), (r2, .inl (cB2, 4096, .inl f2)), (r3, .inl (cB3, 4096, .inl f3)), (r4, .inl (cB4, 4096, .inl f4)), (r5, .inl (cB5, 4096, .inl f5))]) [3, 4, 5, 6, 7, 8] (by decide) rfl
        have hKc := hK.sub (tys' := [(cB1, .int), (cB2, .int), (cB3, .int), (cB4, .int), (cB5, .int)]) [2, 3, 4, 5, 6] rfl
        have hFc := va_free (wc := [(g0, .inr (1, [.int gt, .int gw, .int gh, .int gs, .int ge, .int gi, .int gk, .ref r1, .ref r2, .ref r3, .ref r4, .ref r5, .int go, .int ga])), (r1, .inl (cB1, 4096, .inl f1)), (r2, .inl (cB2, 4096, .inl f2)), (r3, .inl (cB3, 4096, .inl f3)), (r4, .inl (cB4, 4096, .inl f4)), (r5, .inl (cB5, 4096, .inl f5))]) hD hS hA [3, 4, 5, 6, 7, 8] rfl
        refine va_calli (va_runV (As := [.int (xs ((nI (6 * n)) + 1).toNatClampNeg), .int (xs ((nI (6 * n)) + 2).toNatClampNeg), .int (xs ((nI (6 * n)) + 3).toNatClampNeg), .int (xs ((nI (6 * n)) + 4).toNatClampNeg), .int (xs ((nI (6 * n)) + 5).toNatClampNeg)]) (rest := []) ⟨hx, hb, hml, hown, hts⟩ (mtX1_put l dC dI g0 r1 r2 r3 r4 r5 cB1 cB2 cB3 cB4 cB5 gt gw gh gs ge gi gk go ga f1 f2 f3 f4 f5 H.size (xs ((nI (6 * n)) + 1).toNatClampNeg) (xs ((nI (6 * n)) + 2).toNatClampNeg) (xs ((nI (6 * n)) + 3).toNatClampNeg) (xs ((nI (6 * n)) + 4).toNatClampNeg) (xs ((nI (6 * n)) + 5).toNatClampNeg) hs0 hac N hN2 hN4 TT hT hT31) (cwV 5 hts (gb_v kw_393 kw_394 kw_395 kw_23 kw_396) rfl rfl rfl (by decide +kernel) ⟨Nat.le_of_ble_eq_true rfl, Nat.le_of_ble_eq_true rfl⟩) ⟨mu_P.blind, va_recv hKc hPc (ci := 1) (q0 := 0) rfl rfl, mu_P.at hPc hKc hDc⟩ rfl rfl hl.1 rfl (lv_room (Nat.le_of_ble_eq_true rfl)) dL_law_252 ⟨(by show ((600 - d) + 1) + 0 ≤ 601024; omega), (by show ((3200000 - 6144 * d) + 6144) + 0 ≤ 7293034; omega)⟩) hS (fun q _ h => hFc q h) hFc (fun bb u t H1 locs ht hvm hw2 hB hz1 hk1 hS => ?_)
        obtain ⟨gt_63, gw_64, gh_65, gs_66, ge_67, gi_68, gk_69, go_70, ga_71, f1_72, f2_73, f3_74, f4_75, f5_76⟩ := u
        obtain ⟨r1_77, r2_78, r3_79, r4_80, r5_81, cB1_82, cB2_83, cB3_84, cB4_85, cB5_86, hP1, hK1, hD1⟩ := hB
        rw [ht] at hP1
        have hK1 := va_K.moved hvm.symm hK1
        obtain ⟨hP, hD⟩ := va_join (wr := [(h0, .inr (0, [.int fw_47, .int fh_48, .int fs_49, .int fc_50, .int fl_51, .int fe_52, .ref q1_59, .int fi_53, .int ft_54, .int fo_55, .int fa_56])), (q1_59, .inl (cA_60, an_57, .inl af_58)), (q2, .inl (cJ_61, 1, .inr (.inl ol_62)))]) (w1 := [(g0, .inr (1, [.int gt_63, .int gw_64, .int gh_65, .int gs_66, .int ge_67, .int gi_68, .int gk_69, .ref r1_77, .ref r2_78, .ref r3_79, .ref r4_80, .ref r5_81, .int go_70, .int ga_71])), (r1_77, .inl (cB1_82, 4096, .inl f1_72)), (r2_78, .inl (cB2_83, 4096, .inl f2_73)), (r3_79, .inl (cB3_84, 4096, .inl f3_74)), (r4_80, .inl (cB4_85, 4096, .inl f4_75)), (r5_81, .inl (cB5_86, 4096, .inl f5_76))]) hP hD [3, 4, 5, 6, 7, 8] [0, 1, 2] rfl rfl (by decide) (by decide) hk1 hFc hP1 hD1
        have hK := (hK.sub (tys' := [(cA_60, .int), (cJ_61, .long)]) [0, 1] rfl).app hK1
        generalize H1 = H at hP hS ⊢
        have hP := hP.sub (ws' := [(h0, .inr (0, [.int fw_47, .int fh_48, .int fs_49, .int fc_50, .int fl_51, .int fe_52, .ref q1_59, .int fi_53, .int ft_54, .int fo_55, .int fa_56])), (q1_59, .inl (cA_60, an_57, .inl af_58)), (q2, .inl (cJ_61, 1, .inr (.inl ol_62))), (g0, .inr (1, [.int gt_63, .int gw_64, .int gh_65, .int gs_66, .int ge_67, .int gi_68, .int gk_69, .ref r1_77, .ref r2_78, .ref r3_79, .ref r4_80, .ref r5_81, .int go_70, .int ga_71])), (r1_77, .inl (cB1_82, 4096, .inl f1_72)), (r2_78, .inl (cB2_83, 4096, .inl f2_73)), (r3_79, .inl (cB3_84, 4096, .inl f3_74)), (r4_80, .inl (cB4_85, 4096, .inl f4_75)), (r5_81, .inl (cB5_86, 4096, .inl f5_76))]) [0, 1, 2, 3, 4, 5, 6, 7, 8] rfl
        have hD := hD.sub (ws' := [(h0, .inr (0, [.int fw_47, .int fh_48, .int fs_49, .int fc_50, .int fl_51, .int fe_52, .ref q1_59, .int fi_53, .int ft_54, .int fo_55, .int fa_56])), (q1_59, .inl (cA_60, an_57, .inl af_58)), (q2, .inl (cJ_61, 1, .inr (.inl ol_62))), (g0, .inr (1, [.int gt_63, .int gw_64, .int gh_65, .int gs_66, .int ge_67, .int gi_68, .int gk_69, .ref r1_77, .ref r2_78, .ref r3_79, .ref r4_80, .ref r5_81, .int go_70, .int ga_71])), (r1_77, .inl (cB1_82, 4096, .inl f1_72)), (r2_78, .inl (cB2_83, 4096, .inl f2_73)), (r3_79, .inl (cB3_84, 4096, .inl f3_74)), (r4_80, .inl (cB4_85, 4096, .inl f4_75)), (r5_81, .inl (cB5_86, 4096, .inl f5_76))]) [0, 1, 2, 3, 4, 5, 6, 7, 8] (by decide) rfl
        have hK := hK.sub (tys' := [(cA_60, .int), (cJ_61, .long), (cB1_82, .int), (cB2_83, .int), (cB3_84, .int), (cB4_85, .int), (cB5_86, .int)]) [0, 1, 2, 3, 4, 5, 6] rfl
        have hst := st_put hn9 hI hw1 hw2
        obtain ⟨e1, e2, hI⟩ := hst
        refine lv_istore (lv' := [(6, .int bb), (5, .int r), (4, .int (nI (6 * n))), (3, .ref q2), (2, .ref g0), (1, .ref h0), (0, .ref b)]) hx hb dL_law_255 hl (by decide) rfl (fun ls hl => ?_)
        refine lv_aload_n hx hb dL_law_257 rfl (lv_at hl 4 rfl) ?_
        refine ro_calli (va_runV (As := []) (rest := []) ⟨hx, hb, hml, hown, hts⟩ (mtX1_thrown l dC dI g0 r1_77 r2_78 r3_79 r4_80 r5_81 cB1_82 cB2_83 cB3_84 cB4_85 cB5_86 gt_63 gw_64 gh_65 gs_66 ge_67 gi_68 gk_69 go_70 ga_71 f1_72 f2_73 f3_74 f4_75 f5_76 H.size) (cwV 0 hts (gb_v kw_370 kw_371 kw_372 kw_23 kw_373) rfl rfl rfl (by decide +kernel) ⟨Nat.le_of_ble_eq_true rfl, Nat.le_of_ble_eq_true rfl⟩) ⟨ro_P.blind, va_recv hK hP (ci := 1) (q0 := 3) rfl rfl, ro_P.at (hP.sub [3, 4, 5, 6, 7, 8] rfl) (hK.sub [2, 3, 4, 5, 6] rfl)⟩ rfl rfl hl.1 rfl (lv_room (Nat.le_of_ble_eq_true rfl)) dL_law_258 ⟨(by show ((600 - d) + 1) + 0 ≤ 601024; omega), (by show ((3200000 - 6144 * d) + 6144) + 0 ≤ 7293034; omega)⟩) hP hS hA (fun H locs hP hS hz hk => ?_)
        refine lv_iload hx hb dL_law_261 (lv_at hl 1 rfl) ?_
        refine lv_icmp_eq (tgt := 268) hx hb dL_law_263 (by decide) (fun c_87 => ?_) (fun c_87 => ?_)
        · refine lv_iload hx hb dL_law_268 (lv_at hl 1 rfl) ?_
          refine lv_if_ne (tgt := 285) hx hb dL_law_270 (by decide) (fun c_88 => ?_) (fun c_88 => ?_)
          · refine lv_goto (tgt := 659) hx hb dL_law_285 (by decide) ?_
            refine lv_iinc (v := nI (6 * n) + 6) (lv' := [(4, .int (nI (6 * n) + 6)), (6, .int bb), (5, .int r), (3, .ref q2), (2, .ref g0), (1, .ref h0), (0, .ref b)]) hx hb dL_law_659 hl (k := 2) rfl (by rfl) (by decide) rfl (fun ls hl => ?_)
            refine lv_goto (tgt := 23) hx hb dL_law_662 (by decide) ?_
            rw [show nI (6 * n) + 6 = nI (6 * (n + 1)) by rw [lm_6, nI_add]; rfl] at hl
            refine W.widen (k := 600 - (d - 1)) (n := 3200000 - 6144 * (d - 1)) (by show ((600 - d) + 1) ≤ _; omega) (by show ((3200000 - 6144 * d) + 6144) ≤ _; omega) ?_
            exact ih (d - 1) _ _ _ (by omega) ⟨n + 1, h0, q1_59, q2, g0, r1_77, r2_78, r3_79, r4_80, r5_81, cA_60, cJ_61, cB1_82, cB2_83, cB3_84, cB4_85, cB5_86, fw_47, fh_48, fs_49, fc_50, fl_51, fe_52, fi_53, ft_54, fo_55, fa_56, an_57, af_58, ol_62, gt_63, gw_64, gh_65, gs_66, ge_67, gi_68, gk_69, go_70, ga_71, f1_72, f2_73, f3_74, f4_75, f5_76, by omega, hI, hP, hK, hD, hS, lv_sub hl [0, 3, 4, 5, 6] rfl⟩
          · refine lv_aload_n hx hb dL_law_273 rfl (lv_at hl 3 rfl) ?_
            refine lv_iconst (v := 0) hx hb dL_law_274 (by first | rfl | decide) ?_
            refine va_lald hx hb hK hP 2 1 rfl rfl lm_01 dL_law_275 ?_
            refine lv_iload hx hb dL_law_276 (lv_at hl 0 rfl) ?_
            refine lv_i2l (v := bb.toInt64) hx hb dL_law_278 rfl ?_
            refine W.lcmp hx hb dL_law_279 ?_
            refine lv_if_eq (tgt := 285) hx hb dL_law_280 (by decide) (fun c_89 => ?_) (fun c_89 => ?_)
            · refine lv_goto (tgt := 659) hx hb dL_law_285 (by decide) ?_
              refine lv_iinc (v := nI (6 * n) + 6) (lv' := [(4, .int (nI (6 * n) + 6)), (6, .int bb), (5, .int r), (3, .ref q2), (2, .ref g0), (1, .ref h0), (0, .ref b)]) hx hb dL_law_659 hl (k := 2) rfl (by rfl) (by decide) rfl (fun ls hl => ?_)
              refine lv_goto (tgt := 23) hx hb dL_law_662 (by decide) ?_
              rw [show nI (6 * n) + 6 = nI (6 * (n + 1)) by rw [lm_6, nI_add]; rfl] at hl
              refine W.widen (k := 600 - (d - 1)) (n := 3200000 - 6144 * (d - 1)) (by show ((600 - d) + 1) ≤ _; omega) (by show ((3200000 - 6144 * d) + 6144) ≤ _; omega) ?_
              exact ih (d - 1) _ _ _ (by omega) ⟨n + 1, h0, q1_59, q2, g0, r1_77, r2_78, r3_79, r4_80, r5_81, cA_60, cJ_61, cB1_82, cB2_83, cB3_84, cB4_85, cB5_86, fw_47, fh_48, fs_49, fc_50, fl_51, fe_52, fi_53, ft_54, fo_55, fa_56, an_57, af_58, ol_62, gt_63, gw_64, gh_65, gs_66, ge_67, gi_68, gk_69, go_70, ga_71, f1_72, f2_73, f3_74, f4_75, f5_76, by omega, hI, hP, hK, hD, hS, lv_sub hl [0, 3, 4, 5, 6] rfl⟩
            · exact absurd ((lg_cmp_eq _ _).mpr (e2 c_88)) c_89
        · exact absurd e1 c_87
      · rcases Classical.em (((xs (nI (6 * n)).toNatClampNeg) &&& 15) = 2) with c_90 | c_90
        · refine lv_tableIn (off := 248) (tgt := 288) hx hb dL_law_40 (by rw [c_90]; decide) (by rw [c_90]; decide) (by rw [c_90]; rfl) (by decide) ?_
          refine lv_aload_n hx hb dL_law_288 rfl (lv_at hl 3 rfl) ?_
          have hPc := hP.sub (ws' := [(h0, .inr (0, [.int fw, .int fh, .int fs, .int fc, .int fl, .int fe, .ref q1, .int fi, .int ft, .int fo, .int fa])), (q1, .inl (cA, an, .inl af))]) [0, 1] rfl
          have hDc := hD.sub (ws' := [(h0, .inr (0, [.int fw, .int fh, .int fs, .int fc, .int fl, .int fe, .ref q1, .int fi, .int ft, .int fo, .int fa])), (q1, .inl (cA, an, .inl af))]) [0, 1] (by decide) rfl
          have hKc := hK.sub (tys' := [(cA, .int)]) [0] rfl
          have hFc := va_free (wc := [(h0, .inr (0, [.int fw, .int fh, .int fs, .int fc, .int fl, .int fe, .ref q1, .int fi, .int ft, .int fo, .int fa])), (q1, .inl (cA, an, .inl af))]) hD hS hA [0, 1] rfl
          refine va_callv (va_runV (As := []) (rest := []) ⟨hx, hb, hml, hown, hts⟩ (mtX0_empty l dC dI h0 q1 cA fw fh fs fc fl fe fi ft fo fa an af H.size) (cwV 0 hts (gb_v kw_88 kw_89 kw_90 kw_22 kw_91) rfl rfl rfl (by decide +kernel) ⟨Nat.le_of_ble_eq_true rfl, Nat.le_of_ble_eq_true rfl⟩) ⟨mu_P.blind, va_recv hKc hPc (ci := 0) (q0 := 0) rfl rfl, mu_P.at hPc hKc hDc⟩ rfl rfl hl.1 rfl (lv_room (Nat.le_of_ble_eq_true rfl)) dL_law_289 ⟨(by show (600 - d) + 0 ≤ 601024; omega), (by show (3200000 - 6144 * d) + 0 ≤ 7293034; omega)⟩) hS (fun q _ h => hFc q h) hFc (fun u t H1 locs ht hvm hw hB hz1 hk1 hS => ?_)
          have hw : u = tb_empty fw fh fs fc fl fe an af := hw
          subst hw
          obtain ⟨q1_91, cA_92, hP1, hK1, hD1⟩ := hB
          rw [ht] at hP1
          have hK1 := va_K.moved hvm.symm hK1
          obtain ⟨hP, hD⟩ := va_join (wr := [(q2, .inl (cJ, 1, .inr (.inl ol))), (g0, .inr (1, [.int gt, .int gw, .int gh, .int gs, .int ge, .int gi, .int gk, .ref r1, .ref r2, .ref r3, .ref r4, .ref r5, .int go, .int ga])), (r1, .inl (cB1, 4096, .inl f1)), (r2, .inl (cB2, 4096, .inl f2)), (r3, .inl (cB3, 4096, .inl f3)), (r4, .inl (cB4, 4096, .inl f4)), (r5, .inl (cB5, 4096, .inl f5))]) (w1 := [(h0, .inr (0, [.int fw, .int fh, .int fs, .int fc, .int fl, .int fe, .ref q1_91, .int 0, .int 0, .int (-1), .int 0])), (q1_91, .inl (cA_92, an, .inl af))]) hP hD [0, 1] [2, 3, 4, 5, 6, 7, 8] rfl rfl (by decide) (by decide) hk1 hFc hP1 hD1
          have hK := (hK.sub (tys' := [(cJ, .long), (cB1, .int), (cB2, .int), (cB3, .int), (cB4, .int), (cB5, .int)]) [1, 2, 3, 4, 5, 6] rfl).app hK1
          generalize H1 = H at hP hS ⊢
          have hP := hP.sub (ws' := [(h0, .inr (0, [.int fw, .int fh, .int fs, .int fc, .int fl, .int fe, .ref q1_91, .int 0, .int 0, .int (-1), .int 0])), (q1_91, .inl (cA_92, an, .inl af)), (q2, .inl (cJ, 1, .inr (.inl ol))), (g0, .inr (1, [.int gt, .int gw, .int gh, .int gs, .int ge, .int gi, .int gk, .ref r1, .ref r2, .ref r3, .ref r4, .ref r5, .int go, .int ga])), (r1, .inl (cB1, 4096, .inl f1)), (r2, .inl (cB2, 4096, .inl f2)), (r3, .inl (cB3, 4096, .inl f3)), (r4, .inl (cB4, 4096, .inl f4)), (r5, .inl (cB5, 4096, .inl f5))]) [7, 8, 0, 1, 2, 3, 4, 5, 6] rfl
          have hD := hD.sub (ws' := [(h0, .inr (0, [.int fw, .int fh, .int fs, .int fc, .int fl, .int fe, .ref q1_91, .int 0, .int 0, .int (-1), .int 0])), (q1_91, .inl (cA_92, an, .inl af)), (q2, .inl (cJ, 1, .inr (.inl ol))), (g0, .inr (1, [.int gt, .int gw, .int gh, .int gs, .int ge, .int gi, .int gk, .ref r1, .ref r2, .ref r3, .ref r4, .ref r5, .int go, .int ga])), (r1, .inl (cB1, 4096, .inl f1)), (r2, .inl (cB2, 4096, .inl f2)), (r3, .inl (cB3, 4096, .inl f3)), (r4, .inl (cB4, 4096, .inl f4)), (r5, .inl (cB5, 4096, .inl f5))]) [7, 8, 0, 1, 2, 3, 4, 5, 6] (by decide) rfl
          have hK := hK.sub (tys' := [(cA_92, .int), (cJ, .long), (cB1, .int), (cB2, .int), (cB3, .int), (cB4, .int), (cB5, .int)]) [6, 0, 1, 2, 3, 4, 5] rfl
          refine lv_aload_n hx hb dL_law_292 rfl (lv_at hl 2 rfl) ?_
          have hPc := hP.sub (ws' := [(g0, .inr (1, [.int gt, .int gw, .int gh, .int gs, .int ge, .int gi, .int gk, .ref r1, .ref r2, .ref r3, .ref r4, .ref r5, .int go, .int ga])), (r1, .inl (cB1, 4096, .inl f1)), (r2, .inl (cB2, 4096, .inl f2)), (r3, .inl (cB3, 4096, .inl f3)), (r4, .inl (cB4, 4096, .inl f4)), (r5, .inl (cB5, 4096, .inl f5))]) [3, 4, 5, 6, 7, 8] rfl
          have hDc := hD.sub (ws' := [(g0, .inr (1, [.int gt, .int gw, .int gh, .int gs, .int ge, .int gi, .int gk, .ref r1, .ref r2, .ref r3, .ref r4, .ref r5, .int go, .int ga])), (r1, .inl (cB1, 4096, .inl f1)), (r2, .inl (cB2, 4096, .inl f2)), (r3, .inl (cB3, 4096, .inl f3)), (r4, .inl (cB4, 4096, .inl f4)), (r5, .inl (cB5, 4096, .inl f5))]) [3, 4, 5, 6, 7, 8] (by decide) rfl
          have hKc := hK.sub (tys' := [(cB1, .int), (cB2, .int), (cB3, .int), (cB4, .int), (cB5, .int)]) [2, 3, 4, 5, 6] rfl
          have hFc := va_free (wc := [(g0, .inr (1, [.int gt, .int gw, .int gh, .int gs, .int ge, .int gi, .int gk, .ref r1, .ref r2, .ref r3, .ref r4, .ref r5, .int go, .int ga])), (r1, .inl (cB1, 4096, .inl f1)), (r2, .inl (cB2, 4096, .inl f2)), (r3, .inl (cB3, 4096, .inl f3)), (r4, .inl (cB4, 4096, .inl f4)), (r5, .inl (cB5, 4096, .inl f5))]) hD hS hA [3, 4, 5, 6, 7, 8] rfl
          refine va_callv (va_runV (As := []) (rest := []) ⟨hx, hb, hml, hown, hts⟩ (mtX1_empty l dC dI g0 r1 r2 r3 r4 r5 cB1 cB2 cB3 cB4 cB5 gt gw gh gs ge gi gk go ga f1 f2 f3 f4 f5 H.size  ) (cwV 0 hts (gb_v kw_418 kw_419 kw_420 kw_23 kw_421) rfl rfl rfl (by decide +kernel) ⟨Nat.le_of_ble_eq_true rfl, Nat.le_of_ble_eq_true rfl⟩) ⟨mu_P.blind, va_recv hKc hPc (ci := 1) (q0 := 0) rfl rfl, mu_P.at hPc hKc hDc⟩ rfl rfl hl.1 rfl (lv_room (Nat.le_of_ble_eq_true rfl)) dL_law_293 ⟨(by show (600 - d) + 0 ≤ 601024; omega), (by show (3200000 - 6144 * d) + 0 ≤ 7293034; omega)⟩) hS (fun q _ h => hFc q h) hFc (fun u t H1 locs ht hvm hw2 hB hz1 hk1 hS => ?_)
          have hw2 : u = md_empty gw gh gs ge ga f1 f2 f3 f4 f5 := hw2
          subst hw2
          obtain ⟨r1_107, r2_108, r3_109, r4_110, r5_111, cB1_112, cB2_113, cB3_114, cB4_115, cB5_116, hP1, hK1, hD1⟩ := hB
          rw [ht] at hP1
          have hK1 := va_K.moved hvm.symm hK1
          obtain ⟨hP, hD⟩ := va_join (wr := [(h0, .inr (0, [.int fw, .int fh, .int fs, .int fc, .int fl, .int fe, .ref q1_91, .int 0, .int 0, .int (-1), .int 0])), (q1_91, .inl (cA_92, an, .inl af)), (q2, .inl (cJ, 1, .inr (.inl ol)))]) (w1 := [(g0, .inr (1, [.int 0, .int gw, .int gh, .int gs, .int ge, .int 0, .int 0, .ref r1_107, .ref r2_108, .ref r3_109, .ref r4_110, .ref r5_111, .int (-1), .int ga])), (r1_107, .inl (cB1_112, 4096, .inl f1)), (r2_108, .inl (cB2_113, 4096, .inl f2)), (r3_109, .inl (cB3_114, 4096, .inl f3)), (r4_110, .inl (cB4_115, 4096, .inl f4)), (r5_111, .inl (cB5_116, 4096, .inl f5))]) hP hD [3, 4, 5, 6, 7, 8] [0, 1, 2] rfl rfl (by decide) (by decide) hk1 hFc hP1 hD1
          have hK := (hK.sub (tys' := [(cA_92, .int), (cJ, .long)]) [0, 1] rfl).app hK1
          generalize H1 = H at hP hS ⊢
          have hP := hP.sub (ws' := [(h0, .inr (0, [.int fw, .int fh, .int fs, .int fc, .int fl, .int fe, .ref q1_91, .int 0, .int 0, .int (-1), .int 0])), (q1_91, .inl (cA_92, an, .inl af)), (q2, .inl (cJ, 1, .inr (.inl ol))), (g0, .inr (1, [.int 0, .int gw, .int gh, .int gs, .int ge, .int 0, .int 0, .ref r1_107, .ref r2_108, .ref r3_109, .ref r4_110, .ref r5_111, .int (-1), .int ga])), (r1_107, .inl (cB1_112, 4096, .inl f1)), (r2_108, .inl (cB2_113, 4096, .inl f2)), (r3_109, .inl (cB3_114, 4096, .inl f3)), (r4_110, .inl (cB4_115, 4096, .inl f4)), (r5_111, .inl (cB5_116, 4096, .inl f5))]) [0, 1, 2, 3, 4, 5, 6, 7, 8] rfl
          have hD := hD.sub (ws' := [(h0, .inr (0, [.int fw, .int fh, .int fs, .int fc, .int fl, .int fe, .ref q1_91, .int 0, .int 0, .int (-1), .int 0])), (q1_91, .inl (cA_92, an, .inl af)), (q2, .inl (cJ, 1, .inr (.inl ol))), (g0, .inr (1, [.int 0, .int gw, .int gh, .int gs, .int ge, .int 0, .int 0, .ref r1_107, .ref r2_108, .ref r3_109, .ref r4_110, .ref r5_111, .int (-1), .int ga])), (r1_107, .inl (cB1_112, 4096, .inl f1)), (r2_108, .inl (cB2_113, 4096, .inl f2)), (r3_109, .inl (cB3_114, 4096, .inl f3)), (r4_110, .inl (cB4_115, 4096, .inl f4)), (r5_111, .inl (cB5_116, 4096, .inl f5))]) [0, 1, 2, 3, 4, 5, 6, 7, 8] (by decide) rfl
          have hK := hK.sub (tys' := [(cA_92, .int), (cJ, .long), (cB1_112, .int), (cB2_113, .int), (cB3_114, .int), (cB4_115, .int), (cB5_116, .int)]) [0, 1, 2, 3, 4, 5, 6] rfl
          have hI := st_empty hn9 hI
          refine lv_goto (tgt := 659) hx hb dL_law_296 (by decide) ?_
          refine lv_iinc (v := nI (6 * n) + 6) (lv' := [(4, .int (nI (6 * n) + 6)), (3, .ref q2), (2, .ref g0), (1, .ref h0), (0, .ref b)]) hx hb dL_law_659 hl (k := 0) rfl (by rfl) (by decide) rfl (fun ls hl => ?_)
          refine lv_goto (tgt := 23) hx hb dL_law_662 (by decide) ?_
          rw [show nI (6 * n) + 6 = nI (6 * (n + 1)) by rw [lm_6, nI_add]; rfl] at hl
          refine W.widen (k := 600 - (d - 1)) (n := 3200000 - 6144 * (d - 1)) (by show (600 - d) ≤ _; omega) (by show (3200000 - 6144 * d) ≤ _; omega) ?_
          exact ih (d - 1) _ _ _ (by omega) ⟨n + 1, h0, q1_91, q2, g0, r1_107, r2_108, r3_109, r4_110, r5_111, cA_92, cJ, cB1_112, cB2_113, cB3_114, cB4_115, cB5_116, fw, fh, fs, fc, fl, fe, 0, 0, (-1), 0, an, af, ol, 0, gw, gh, gs, ge, 0, 0, (-1), ga, f1, f2, f3, f4, f5, by omega, hI, hP, hK, hD, hS, lv_sub hl [0, 1, 2, 3, 4] rfl⟩
        · rcases Classical.em (((xs (nI (6 * n)).toNatClampNeg) &&& 15) = 3) with c_117 | c_117
          · refine lv_tableIn (off := 259) (tgt := 299) hx hb dL_law_40 (by rw [c_117]; decide) (by rw [c_117]; decide) (by rw [c_117]; rfl) (by decide) ?_
            refine lv_aload_n hx hb dL_law_299 rfl (lv_at hl 3 rfl) ?_
            refine lv_aload_n hx hb dL_law_300 rfl (lv_at hl 4 rfl) ?_
            refine lv_iload hx hb dL_law_301 (lv_at hl 0 rfl) ?_
            refine lv_iconst (v := 1) hx hb dL_law_303 (by first | rfl | decide) ?_
            refine lv_iadd hx hb dL_law_304 ?_
            refine va_sld hx hb hX hbl hbA hS (lw_ix (k := 1) (by decide) (by decide) hL hgo) dL_law_305 ?_
            refine lv_aload_n hx hb dL_law_306 rfl (lv_at hl 1 rfl) ?_
            have hPc := hP.sub (ws' := [(h0, .inr (0, [.int fw, .int fh, .int fs, .int fc, .int fl, .int fe, .ref q1, .int fi, .int ft, .int fo, .int fa])), (q1, .inl (cA, an, .inl af)), (q2, .inl (cJ, 1, .inr (.inl ol)))]) [0, 1, 2] rfl
            have hDc := hD.sub (ws' := [(h0, .inr (0, [.int fw, .int fh, .int fs, .int fc, .int fl, .int fe, .ref q1, .int fi, .int ft, .int fo, .int fa])), (q1, .inl (cA, an, .inl af)), (q2, .inl (cJ, 1, .inr (.inl ol)))]) [0, 1, 2] (by decide) rfl
            have hKc := hK.sub (tys' := [(cA, .int), (cJ, .long)]) [0, 1] rfl
            have hFc := va_free (wc := [(h0, .inr (0, [.int fw, .int fh, .int fs, .int fc, .int fl, .int fe, .ref q1, .int fi, .int ft, .int fo, .int fa])), (q1, .inl (cA, an, .inl af)), (q2, .inl (cJ, 1, .inr (.inl ol)))]) hD hS hA [0, 1, 2] rfl
            refine va_calli (vx_runSW (As := [.ref h0, .int (xs ((nI (6 * n)) + 1).toNatClampNeg), .ref q2]) (rest := []) ⟨hx, hb, hml, hown, hts⟩ (mtL_open l hl9 dC dI h0 q1 q2 cA cJ fw fh fs fc fl fe fi ft fo fa an af ol H.size (xs ((nI (6 * n)) + 1).toNatClampNeg) N hN hNb (by omega)) (vx_cwSW 3 hts (gb_s kw_228 kw_229 kw_21 kw_230) rfl rfl rfl (by decide +kernel) ⟨Nat.le_of_ble_eq_true rfl, Nat.le_of_ble_eq_true rfl⟩) ⟨zz_P.blind, zz_P.at hPc hKc hDc (hZ.kept hS.2.1) hFc⟩ rfl rfl hl.1 rfl (lv_room (Nat.le_of_ble_eq_true rfl)) dL_law_307 ⟨(by show (600 - d) + 1 ≤ 601024; omega), (by show (3200000 - 6144 * d) + 6 ≤ 7293034; omega)⟩) hS (fun q _ h => hFc q h) hFc (fun r u t H1 locs ht hvm hw1 hB hz1 hk1 hS => ?_)
            obtain ⟨⟨fw_118, fh_119, fs_120, fc_121, fl_122, fe_123, fi_124, ft_125, fo_126, fa_127, an_128, af_129⟩, ol_133⟩ := u
            obtain ⟨q1_130, cA_131, cJ_132, hP1, hK1, hD1⟩ := hB
            rw [ht] at hP1
            have hK1 := va_K.moved hvm.symm hK1
            obtain ⟨hP, hD⟩ := va_join (wr := [(g0, .inr (1, [.int gt, .int gw, .int gh, .int gs, .int ge, .int gi, .int gk, .ref r1, .ref r2, .ref r3, .ref r4, .ref r5, .int go, .int ga])), (r1, .inl (cB1, 4096, .inl f1)), (r2, .inl (cB2, 4096, .inl f2)), (r3, .inl (cB3, 4096, .inl f3)), (r4, .inl (cB4, 4096, .inl f4)), (r5, .inl (cB5, 4096, .inl f5))]) (w1 := [(h0, .inr (0, [.int fw_118, .int fh_119, .int fs_120, .int fc_121, .int fl_122, .int fe_123, .ref q1_130, .int fi_124, .int ft_125, .int fo_126, .int fa_127])), (q1_130, .inl (cA_131, an_128, .inl af_129)), (q2, .inl (cJ_132, 1, .inr (.inl ol_133)))]) hP hD [0, 1, 2] [3, 4, 5, 6, 7, 8] rfl rfl (by decide) (by decide) hk1 hFc hP1 hD1
            have hK := (hK.sub (tys' := [(cB1, .int), (cB2, .int), (cB3, .int), (cB4, .int), (cB5, .int)]) [2, 3, 4, 5, 6] rfl).app hK1
            generalize H1 = H at hP hS ⊢
            have hP := hP.sub (ws' := [(h0, .inr (0, [.int fw_118, .int fh_119, .int fs_120, .int fc_121, .int fl_122, .int fe_123, .ref q1_130, .int fi_124, .int ft_125, .int fo_126, .int fa_127])), (q1_130, .inl (cA_131, an_128, .inl af_129)), (q2, .inl (cJ_132, 1, .inr (.inl ol_133))), (g0, .inr (1, [.int gt, .int gw, .int gh, .int gs, .int ge, .int gi, .int gk, .ref r1, .ref r2, .ref r3, .ref r4, .ref r5, .int go, .int ga])), (r1, .inl (cB1, 4096, .inl f1)), (r2, .inl (cB2, 4096, .inl f2)), (r3, .inl (cB3, 4096, .inl f3)), (r4, .inl (cB4, 4096, .inl f4)), (r5, .inl (cB5, 4096, .inl f5))]) [6, 7, 8, 0, 1, 2, 3, 4, 5] rfl
            have hD := hD.sub (ws' := [(h0, .inr (0, [.int fw_118, .int fh_119, .int fs_120, .int fc_121, .int fl_122, .int fe_123, .ref q1_130, .int fi_124, .int ft_125, .int fo_126, .int fa_127])), (q1_130, .inl (cA_131, an_128, .inl af_129)), (q2, .inl (cJ_132, 1, .inr (.inl ol_133))), (g0, .inr (1, [.int gt, .int gw, .int gh, .int gs, .int ge, .int gi, .int gk, .ref r1, .ref r2, .ref r3, .ref r4, .ref r5, .int go, .int ga])), (r1, .inl (cB1, 4096, .inl f1)), (r2, .inl (cB2, 4096, .inl f2)), (r3, .inl (cB3, 4096, .inl f3)), (r4, .inl (cB4, 4096, .inl f4)), (r5, .inl (cB5, 4096, .inl f5))]) [6, 7, 8, 0, 1, 2, 3, 4, 5] (by decide) rfl
            have hK := hK.sub (tys' := [(cA_131, .int), (cJ_132, .long), (cB1, .int), (cB2, .int), (cB3, .int), (cB4, .int), (cB5, .int)]) [5, 6, 0, 1, 2, 3, 4] rfl
            refine lv_istore (lv' := [(5, .int r), (4, .int (nI (6 * n))), (3, .ref q2), (2, .ref g0), (1, .ref h0), (0, .ref b)]) hx hb dL_law_310 hl (by decide) rfl (fun ls hl => ?_)
            refine lv_aload_n hx hb dL_law_312 rfl (lv_at hl 3 rfl) ?_
            refine lv_aload_n hx hb dL_law_313 rfl (lv_at hl 5 rfl) ?_
            refine lv_iload hx hb dL_law_314 (lv_at hl 1 rfl) ?_
            refine lv_iconst (v := 1) hx hb dL_law_316 (by first | rfl | decide) ?_
            refine lv_iadd hx hb dL_law_317 ?_
            refine va_sld hx hb hX hbl hbA hS (lw_ix (k := 1) (by decide) (by decide) hL hgo) dL_law_318 ?_
            have hPc := hP.sub (ws' := [(g0, .inr (1, [.int gt, .int gw, .int gh, .int gs, .int ge, .int gi, .int gk, .ref r1, .ref r2, .ref r3, .ref r4, .ref r5, .int go, .int ga])), (r1, .inl (cB1, 4096, .inl f1)), (r2, .inl (cB2, 4096, .inl f2)), (r3, .inl (cB3, 4096, .inl f3)), (r4, .inl (cB4, 4096, .inl f4)), (r5, .inl (cB5, 4096, .inl f5))]) [3, 4, 5, 6, 7, 8] rfl
            have hDc := hD.sub (ws' := [(g0, .inr (1, [.int gt, .int gw, .int gh, .int gs, .int ge, .int gi, .int gk, .ref r1, .ref r2, .ref r3, .ref r4, .ref r5, .int go, .int ga])), (r1, .inl (cB1, 4096, .inl f1)), (r2, .inl (cB2, 4096, .inl f2)), (r3, .inl (cB3, 4096, .inl f3)), (r4, .inl (cB4, 4096, .inl f4)), (r5, .inl (cB5, 4096, .inl f5))]) [3, 4, 5, 6, 7, 8] (by decide) rfl
            have hKc := hK.sub (tys' := [(cB1, .int), (cB2, .int), (cB3, .int), (cB4, .int), (cB5, .int)]) [2, 3, 4, 5, 6] rfl
            have hFc := va_free (wc := [(g0, .inr (1, [.int gt, .int gw, .int gh, .int gs, .int ge, .int gi, .int gk, .ref r1, .ref r2, .ref r3, .ref r4, .ref r5, .int go, .int ga])), (r1, .inl (cB1, 4096, .inl f1)), (r2, .inl (cB2, 4096, .inl f2)), (r3, .inl (cB3, 4096, .inl f3)), (r4, .inl (cB4, 4096, .inl f4)), (r5, .inl (cB5, 4096, .inl f5))]) hD hS hA [3, 4, 5, 6, 7, 8] rfl
            refine va_calli (va_runV (As := [.int (xs ((nI (6 * n)) + 1).toNatClampNeg)]) (rest := []) ⟨hx, hb, hml, hown, hts⟩ (mtX1_open l dC dI g0 r1 r2 r3 r4 r5 cB1 cB2 cB3 cB4 cB5 gt gw gh gs ge gi gk go ga f1 f2 f3 f4 f5 H.size (xs ((nI (6 * n)) + 1).toNatClampNeg) hs0 hac N hN2 hN4 TT hT hT31) (cwV 1 hts (gb_v kw_422 kw_423 kw_424 kw_23 kw_425) rfl rfl rfl (by decide +kernel) ⟨Nat.le_of_ble_eq_true rfl, Nat.le_of_ble_eq_true rfl⟩) ⟨mu_P.blind, va_recv hKc hPc (ci := 1) (q0 := 0) rfl rfl, mu_P.at hPc hKc hDc⟩ rfl rfl hl.1 rfl (lv_room (Nat.le_of_ble_eq_true rfl)) dL_law_319 ⟨(by show ((600 - d) + 1) + 0 ≤ 601024; omega), (by show ((3200000 - 6144 * d) + 6) + 0 ≤ 7293034; omega)⟩) hS (fun q _ h => hFc q h) hFc (fun bb u t H1 locs ht hvm hw2 hB hz1 hk1 hS => ?_)
            obtain ⟨gt_134, gw_135, gh_136, gs_137, ge_138, gi_139, gk_140, go_141, ga_142, f1_143, f2_144, f3_145, f4_146, f5_147⟩ := u
            obtain ⟨r1_148, r2_149, r3_150, r4_151, r5_152, cB1_153, cB2_154, cB3_155, cB4_156, cB5_157, hP1, hK1, hD1⟩ := hB
            rw [ht] at hP1
            have hK1 := va_K.moved hvm.symm hK1
            obtain ⟨hP, hD⟩ := va_join (wr := [(h0, .inr (0, [.int fw_118, .int fh_119, .int fs_120, .int fc_121, .int fl_122, .int fe_123, .ref q1_130, .int fi_124, .int ft_125, .int fo_126, .int fa_127])), (q1_130, .inl (cA_131, an_128, .inl af_129)), (q2, .inl (cJ_132, 1, .inr (.inl ol_133)))]) (w1 := [(g0, .inr (1, [.int gt_134, .int gw_135, .int gh_136, .int gs_137, .int ge_138, .int gi_139, .int gk_140, .ref r1_148, .ref r2_149, .ref r3_150, .ref r4_151, .ref r5_152, .int go_141, .int ga_142])), (r1_148, .inl (cB1_153, 4096, .inl f1_143)), (r2_149, .inl (cB2_154, 4096, .inl f2_144)), (r3_150, .inl (cB3_155, 4096, .inl f3_145)), (r4_151, .inl (cB4_156, 4096, .inl f4_146)), (r5_152, .inl (cB5_157, 4096, .inl f5_147))]) hP hD [3, 4, 5, 6, 7, 8] [0, 1, 2] rfl rfl (by decide) (by decide) hk1 hFc hP1 hD1
            have hK := (hK.sub (tys' := [(cA_131, .int), (cJ_132, .long)]) [0, 1] rfl).app hK1
            generalize H1 = H at hP hS ⊢
            have hP := hP.sub (ws' := [(h0, .inr (0, [.int fw_118, .int fh_119, .int fs_120, .int fc_121, .int fl_122, .int fe_123, .ref q1_130, .int fi_124, .int ft_125, .int fo_126, .int fa_127])), (q1_130, .inl (cA_131, an_128, .inl af_129)), (q2, .inl (cJ_132, 1, .inr (.inl ol_133))), (g0, .inr (1, [.int gt_134, .int gw_135, .int gh_136, .int gs_137, .int ge_138, .int gi_139, .int gk_140, .ref r1_148, .ref r2_149, .ref r3_150, .ref r4_151, .ref r5_152, .int go_141, .int ga_142])), (r1_148, .inl (cB1_153, 4096, .inl f1_143)), (r2_149, .inl (cB2_154, 4096, .inl f2_144)), (r3_150, .inl (cB3_155, 4096, .inl f3_145)), (r4_151, .inl (cB4_156, 4096, .inl f4_146)), (r5_152, .inl (cB5_157, 4096, .inl f5_147))]) [0, 1, 2, 3, 4, 5, 6, 7, 8] rfl
            have hD := hD.sub (ws' := [(h0, .inr (0, [.int fw_118, .int fh_119, .int fs_120, .int fc_121, .int fl_122, .int fe_123, .ref q1_130, .int fi_124, .int ft_125, .int fo_126, .int fa_127])), (q1_130, .inl (cA_131, an_128, .inl af_129)), (q2, .inl (cJ_132, 1, .inr (.inl ol_133))), (g0, .inr (1, [.int gt_134, .int gw_135, .int gh_136, .int gs_137, .int ge_138, .int gi_139, .int gk_140, .ref r1_148, .ref r2_149, .ref r3_150, .ref r4_151, .ref r5_152, .int go_141, .int ga_142])), (r1_148, .inl (cB1_153, 4096, .inl f1_143)), (r2_149, .inl (cB2_154, 4096, .inl f2_144)), (r3_150, .inl (cB3_155, 4096, .inl f3_145)), (r4_151, .inl (cB4_156, 4096, .inl f4_146)), (r5_152, .inl (cB5_157, 4096, .inl f5_147))]) [0, 1, 2, 3, 4, 5, 6, 7, 8] (by decide) rfl
            have hK := hK.sub (tys' := [(cA_131, .int), (cJ_132, .long), (cB1_153, .int), (cB2_154, .int), (cB3_155, .int), (cB4_156, .int), (cB5_157, .int)]) [0, 1, 2, 3, 4, 5, 6] rfl
            have hst := st_open hn9 hI hw1 hw2
            obtain ⟨e1, e2, hI⟩ := hst
            refine lv_istore (lv' := [(6, .int bb), (5, .int r), (4, .int (nI (6 * n))), (3, .ref q2), (2, .ref g0), (1, .ref h0), (0, .ref b)]) hx hb dL_law_322 hl (by decide) rfl (fun ls hl => ?_)
            refine lv_aload_n hx hb dL_law_324 rfl (lv_at hl 4 rfl) ?_
            refine ro_calli (va_runV (As := []) (rest := []) ⟨hx, hb, hml, hown, hts⟩ (mtX1_thrown l dC dI g0 r1_148 r2_149 r3_150 r4_151 r5_152 cB1_153 cB2_154 cB3_155 cB4_156 cB5_157 gt_134 gw_135 gh_136 gs_137 ge_138 gi_139 gk_140 go_141 ga_142 f1_143 f2_144 f3_145 f4_146 f5_147 H.size) (cwV 0 hts (gb_v kw_370 kw_371 kw_372 kw_23 kw_373) rfl rfl rfl (by decide +kernel) ⟨Nat.le_of_ble_eq_true rfl, Nat.le_of_ble_eq_true rfl⟩) ⟨ro_P.blind, va_recv hK hP (ci := 1) (q0 := 3) rfl rfl, ro_P.at (hP.sub [3, 4, 5, 6, 7, 8] rfl) (hK.sub [2, 3, 4, 5, 6] rfl)⟩ rfl rfl hl.1 rfl (lv_room (Nat.le_of_ble_eq_true rfl)) dL_law_325 ⟨(by show ((600 - d) + 1) + 0 ≤ 601024; omega), (by show ((3200000 - 6144 * d) + 6) + 0 ≤ 7293034; omega)⟩) hP hS hA (fun H locs hP hS hz hk => ?_)
            refine lv_iload hx hb dL_law_328 (lv_at hl 1 rfl) ?_
            refine lv_icmp_eq (tgt := 335) hx hb dL_law_330 (by decide) (fun c_158 => ?_) (fun c_158 => ?_)
            · refine lv_iload hx hb dL_law_335 (lv_at hl 1 rfl) ?_
              refine lv_if_ne (tgt := 352) hx hb dL_law_337 (by decide) (fun c_159 => ?_) (fun c_159 => ?_)
              · refine lv_goto (tgt := 659) hx hb dL_law_352 (by decide) ?_
                refine lv_iinc (v := nI (6 * n) + 6) (lv' := [(4, .int (nI (6 * n) + 6)), (6, .int bb), (5, .int r), (3, .ref q2), (2, .ref g0), (1, .ref h0), (0, .ref b)]) hx hb dL_law_659 hl (k := 2) rfl (by rfl) (by decide) rfl (fun ls hl => ?_)
                refine lv_goto (tgt := 23) hx hb dL_law_662 (by decide) ?_
                rw [show nI (6 * n) + 6 = nI (6 * (n + 1)) by rw [lm_6, nI_add]; rfl] at hl
                refine W.widen (k := 600 - (d - 1)) (n := 3200000 - 6144 * (d - 1)) (by show ((600 - d) + 1) ≤ _; omega) (by show ((3200000 - 6144 * d) + 6) ≤ _; omega) ?_
                exact ih (d - 1) _ _ _ (by omega) ⟨n + 1, h0, q1_130, q2, g0, r1_148, r2_149, r3_150, r4_151, r5_152, cA_131, cJ_132, cB1_153, cB2_154, cB3_155, cB4_156, cB5_157, fw_118, fh_119, fs_120, fc_121, fl_122, fe_123, fi_124, ft_125, fo_126, fa_127, an_128, af_129, ol_133, gt_134, gw_135, gh_136, gs_137, ge_138, gi_139, gk_140, go_141, ga_142, f1_143, f2_144, f3_145, f4_146, f5_147, by omega, hI, hP, hK, hD, hS, lv_sub hl [0, 3, 4, 5, 6] rfl⟩
              · refine lv_aload_n hx hb dL_law_340 rfl (lv_at hl 3 rfl) ?_
                refine lv_iconst (v := 0) hx hb dL_law_341 (by first | rfl | decide) ?_
                refine va_lald hx hb hK hP 2 1 rfl rfl lm_01 dL_law_342 ?_
                refine lv_iload hx hb dL_law_343 (lv_at hl 0 rfl) ?_
                refine lv_i2l (v := bb.toInt64) hx hb dL_law_345 rfl ?_
                refine W.lcmp hx hb dL_law_346 ?_
                refine lv_if_eq (tgt := 352) hx hb dL_law_347 (by decide) (fun c_160 => ?_) (fun c_160 => ?_)
                · refine lv_goto (tgt := 659) hx hb dL_law_352 (by decide) ?_
                  refine lv_iinc (v := nI (6 * n) + 6) (lv' := [(4, .int (nI (6 * n) + 6)), (6, .int bb), (5, .int r), (3, .ref q2), (2, .ref g0), (1, .ref h0), (0, .ref b)]) hx hb dL_law_659 hl (k := 2) rfl (by rfl) (by decide) rfl (fun ls hl => ?_)
                  refine lv_goto (tgt := 23) hx hb dL_law_662 (by decide) ?_
                  rw [show nI (6 * n) + 6 = nI (6 * (n + 1)) by rw [lm_6, nI_add]; rfl] at hl
                  refine W.widen (k := 600 - (d - 1)) (n := 3200000 - 6144 * (d - 1)) (by show ((600 - d) + 1) ≤ _; omega) (by show ((3200000 - 6144 * d) + 6) ≤ _; omega) ?_
                  exact ih (d - 1) _ _ _ (by omega) ⟨n + 1, h0, q1_130, q2, g0, r1_148, r2_149, r3_150, r4_151, r5_152, cA_131, cJ_132, cB1_153, cB2_154, cB3_155, cB4_156, cB5_157, fw_118, fh_119, fs_120, fc_121, fl_122, fe_123, fi_124, ft_125, fo_126, fa_127, an_128, af_129, ol_133, gt_134, gw_135, gh_136, gs_137, ge_138, gi_139, gk_140, go_141, ga_142, f1_143, f2_144, f3_145, f4_146, f5_147, by omega, hI, hP, hK, hD, hS, lv_sub hl [0, 3, 4, 5, 6] rfl⟩
                · exact absurd ((lg_cmp_eq _ _).mpr (e2 c_159)) c_160
            · exact absurd e1 c_158
          · rcases Classical.em (((xs (nI (6 * n)).toNatClampNeg) &&& 15) = 4) with c_161 | c_161
            · refine lv_tableIn (off := 315) (tgt := 355) hx hb dL_law_40 (by rw [c_161]; decide) (by rw [c_161]; decide) (by rw [c_161]; rfl) (by decide) ?_
              refine lv_aload_n hx hb dL_law_355 rfl (lv_at hl 3 rfl) ?_
              refine lv_aload_n hx hb dL_law_356 rfl (lv_at hl 1 rfl) ?_
              have hPc := hP.sub (ws' := [(h0, .inr (0, [.int fw, .int fh, .int fs, .int fc, .int fl, .int fe, .ref q1, .int fi, .int ft, .int fo, .int fa])), (q1, .inl (cA, an, .inl af)), (q2, .inl (cJ, 1, .inr (.inl ol)))]) [0, 1, 2] rfl
              have hDc := hD.sub (ws' := [(h0, .inr (0, [.int fw, .int fh, .int fs, .int fc, .int fl, .int fe, .ref q1, .int fi, .int ft, .int fo, .int fa])), (q1, .inl (cA, an, .inl af)), (q2, .inl (cJ, 1, .inr (.inl ol)))]) [0, 1, 2] (by decide) rfl
              have hKc := hK.sub (tys' := [(cA, .int), (cJ, .long)]) [0, 1] rfl
              have hFc := va_free (wc := [(h0, .inr (0, [.int fw, .int fh, .int fs, .int fc, .int fl, .int fe, .ref q1, .int fi, .int ft, .int fo, .int fa])), (q1, .inl (cA, an, .inl af)), (q2, .inl (cJ, 1, .inr (.inl ol)))]) hD hS hA [0, 1, 2] rfl
              refine va_calli (vx_runSW (As := [.ref h0, .ref q2]) (rest := []) ⟨hx, hb, hml, hown, hts⟩ (mtL_next l hl9 dC dI h0 q1 q2 cA cJ fw fh fs fc fl fe fi ft fo fa an af ol H.size  N hN hNb (by omega) a0 ha0 ha0N) (vx_cwSW 2 hts (gb_s kw_260 kw_261 kw_21 kw_262) rfl rfl rfl (by decide +kernel) ⟨Nat.le_of_ble_eq_true rfl, Nat.le_of_ble_eq_true rfl⟩) ⟨zz_P.blind, zz_P.at hPc hKc hDc (hZ.kept hS.2.1) hFc⟩ rfl rfl hl.1 rfl (lv_room (Nat.le_of_ble_eq_true rfl)) dL_law_357 ⟨(by show (600 - d) + 1 ≤ 601024; omega), (by show (3200000 - 6144 * d) + 6 ≤ 7293034; omega)⟩) hS (fun q _ h => hFc q h) hFc (fun r u t H1 locs ht hvm hw1 hB hz1 hk1 hS => ?_)
              obtain ⟨⟨fw_162, fh_163, fs_164, fc_165, fl_166, fe_167, fi_168, ft_169, fo_170, fa_171, an_172, af_173⟩, ol_177⟩ := u
              obtain ⟨q1_174, cA_175, cJ_176, hP1, hK1, hD1⟩ := hB
              rw [ht] at hP1
              have hK1 := va_K.moved hvm.symm hK1
              obtain ⟨hP, hD⟩ := va_join (wr := [(g0, .inr (1, [.int gt, .int gw, .int gh, .int gs, .int ge, .int gi, .int gk, .ref r1, .ref r2, .ref r3, .ref r4, .ref r5, .int go, .int ga])), (r1, .inl (cB1, 4096, .inl f1)), (r2, .inl (cB2, 4096, .inl f2)), (r3, .inl (cB3, 4096, .inl f3)), (r4, .inl (cB4, 4096, .inl f4)), (r5, .inl (cB5, 4096, .inl f5))]) (w1 := [(h0, .inr (0, [.int fw_162, .int fh_163, .int fs_164, .int fc_165, .int fl_166, .int fe_167, .ref q1_174, .int fi_168, .int ft_169, .int fo_170, .int fa_171])), (q1_174, .inl (cA_175, an_172, .inl af_173)), (q2, .inl (cJ_176, 1, .inr (.inl ol_177)))]) hP hD [0, 1, 2] [3, 4, 5, 6, 7, 8] rfl rfl (by decide) (by decide) hk1 hFc hP1 hD1
              have hK := (hK.sub (tys' := [(cB1, .int), (cB2, .int), (cB3, .int), (cB4, .int), (cB5, .int)]) [2, 3, 4, 5, 6] rfl).app hK1
              generalize H1 = H at hP hS ⊢
              have hP := hP.sub (ws' := [(h0, .inr (0, [.int fw_162, .int fh_163, .int fs_164, .int fc_165, .int fl_166, .int fe_167, .ref q1_174, .int fi_168, .int ft_169, .int fo_170, .int fa_171])), (q1_174, .inl (cA_175, an_172, .inl af_173)), (q2, .inl (cJ_176, 1, .inr (.inl ol_177))), (g0, .inr (1, [.int gt, .int gw, .int gh, .int gs, .int ge, .int gi, .int gk, .ref r1, .ref r2, .ref r3, .ref r4, .ref r5, .int go, .int ga])), (r1, .inl (cB1, 4096, .inl f1)), (r2, .inl (cB2, 4096, .inl f2)), (r3, .inl (cB3, 4096, .inl f3)), (r4, .inl (cB4, 4096, .inl f4)), (r5, .inl (cB5, 4096, .inl f5))]) [6, 7, 8, 0, 1, 2, 3, 4, 5] rfl
              have hD := hD.sub (ws' := [(h0, .inr (0, [.int fw_162, .int fh_163, .int fs_164, .int fc_165, .int fl_166, .int fe_167, .ref q1_174, .int fi_168, .int ft_169, .int fo_170, .int fa_171])), (q1_174, .inl (cA_175, an_172, .inl af_173)), (q2, .inl (cJ_176, 1, .inr (.inl ol_177))), (g0, .inr (1, [.int gt, .int gw, .int gh, .int gs, .int ge, .int gi, .int gk, .ref r1, .ref r2, .ref r3, .ref r4, .ref r5, .int go, .int ga])), (r1, .inl (cB1, 4096, .inl f1)), (r2, .inl (cB2, 4096, .inl f2)), (r3, .inl (cB3, 4096, .inl f3)), (r4, .inl (cB4, 4096, .inl f4)), (r5, .inl (cB5, 4096, .inl f5))]) [6, 7, 8, 0, 1, 2, 3, 4, 5] (by decide) rfl
              have hK := hK.sub (tys' := [(cA_175, .int), (cJ_176, .long), (cB1, .int), (cB2, .int), (cB3, .int), (cB4, .int), (cB5, .int)]) [5, 6, 0, 1, 2, 3, 4] rfl
              refine lv_istore (lv' := [(5, .int r), (4, .int (nI (6 * n))), (3, .ref q2), (2, .ref g0), (1, .ref h0), (0, .ref b)]) hx hb dL_law_360 hl (by decide) rfl (fun ls hl => ?_)
              refine lv_aload_n hx hb dL_law_362 rfl (lv_at hl 3 rfl) ?_
              have hPc := hP.sub (ws' := [(g0, .inr (1, [.int gt, .int gw, .int gh, .int gs, .int ge, .int gi, .int gk, .ref r1, .ref r2, .ref r3, .ref r4, .ref r5, .int go, .int ga])), (r1, .inl (cB1, 4096, .inl f1)), (r2, .inl (cB2, 4096, .inl f2)), (r3, .inl (cB3, 4096, .inl f3)), (r4, .inl (cB4, 4096, .inl f4)), (r5, .inl (cB5, 4096, .inl f5))]) [3, 4, 5, 6, 7, 8] rfl
              have hDc := hD.sub (ws' := [(g0, .inr (1, [.int gt, .int gw, .int gh, .int gs, .int ge, .int gi, .int gk, .ref r1, .ref r2, .ref r3, .ref r4, .ref r5, .int go, .int ga])), (r1, .inl (cB1, 4096, .inl f1)), (r2, .inl (cB2, 4096, .inl f2)), (r3, .inl (cB3, 4096, .inl f3)), (r4, .inl (cB4, 4096, .inl f4)), (r5, .inl (cB5, 4096, .inl f5))]) [3, 4, 5, 6, 7, 8] (by decide) rfl
              have hKc := hK.sub (tys' := [(cB1, .int), (cB2, .int), (cB3, .int), (cB4, .int), (cB5, .int)]) [2, 3, 4, 5, 6] rfl
              have hFc := va_free (wc := [(g0, .inr (1, [.int gt, .int gw, .int gh, .int gs, .int ge, .int gi, .int gk, .ref r1, .ref r2, .ref r3, .ref r4, .ref r5, .int go, .int ga])), (r1, .inl (cB1, 4096, .inl f1)), (r2, .inl (cB2, 4096, .inl f2)), (r3, .inl (cB3, 4096, .inl f3)), (r4, .inl (cB4, 4096, .inl f4)), (r5, .inl (cB5, 4096, .inl f5))]) hD hS hA [3, 4, 5, 6, 7, 8] rfl
              refine va_calli (va_runV (As := []) (rest := []) ⟨hx, hb, hml, hown, hts⟩ (mtX1_next l dC dI g0 r1 r2 r3 r4 r5 cB1 cB2 cB3 cB4 cB5 gt gw gh gs ge gi gk go ga f1 f2 f3 f4 f5 H.size  hs0 hac N hN2 hN4 TT hT hT31 a0 hgo0) (cwV 0 hts (gb_v kw_434 kw_435 kw_436 kw_23 kw_437) rfl rfl rfl (by decide +kernel) ⟨Nat.le_of_ble_eq_true rfl, Nat.le_of_ble_eq_true rfl⟩) ⟨mu_P.blind, va_recv hKc hPc (ci := 1) (q0 := 0) rfl rfl, mu_P.at hPc hKc hDc⟩ rfl rfl hl.1 rfl (lv_room (Nat.le_of_ble_eq_true rfl)) dL_law_363 ⟨(by show ((600 - d) + 1) + 0 ≤ 601024; omega), (by show ((3200000 - 6144 * d) + 6) + 0 ≤ 7293034; omega)⟩) hS (fun q _ h => hFc q h) hFc (fun bb u t H1 locs ht hvm hw2 hB hz1 hk1 hS => ?_)
              obtain ⟨gt_178, gw_179, gh_180, gs_181, ge_182, gi_183, gk_184, go_185, ga_186, f1_187, f2_188, f3_189, f4_190, f5_191⟩ := u
              obtain ⟨r1_192, r2_193, r3_194, r4_195, r5_196, cB1_197, cB2_198, cB3_199, cB4_200, cB5_201, hP1, hK1, hD1⟩ := hB
              rw [ht] at hP1
              have hK1 := va_K.moved hvm.symm hK1
              obtain ⟨hP, hD⟩ := va_join (wr := [(h0, .inr (0, [.int fw_162, .int fh_163, .int fs_164, .int fc_165, .int fl_166, .int fe_167, .ref q1_174, .int fi_168, .int ft_169, .int fo_170, .int fa_171])), (q1_174, .inl (cA_175, an_172, .inl af_173)), (q2, .inl (cJ_176, 1, .inr (.inl ol_177)))]) (w1 := [(g0, .inr (1, [.int gt_178, .int gw_179, .int gh_180, .int gs_181, .int ge_182, .int gi_183, .int gk_184, .ref r1_192, .ref r2_193, .ref r3_194, .ref r4_195, .ref r5_196, .int go_185, .int ga_186])), (r1_192, .inl (cB1_197, 4096, .inl f1_187)), (r2_193, .inl (cB2_198, 4096, .inl f2_188)), (r3_194, .inl (cB3_199, 4096, .inl f3_189)), (r4_195, .inl (cB4_200, 4096, .inl f4_190)), (r5_196, .inl (cB5_201, 4096, .inl f5_191))]) hP hD [3, 4, 5, 6, 7, 8] [0, 1, 2] rfl rfl (by decide) (by decide) hk1 hFc hP1 hD1
              have hK := (hK.sub (tys' := [(cA_175, .int), (cJ_176, .long)]) [0, 1] rfl).app hK1
              generalize H1 = H at hP hS ⊢
              have hP := hP.sub (ws' := [(h0, .inr (0, [.int fw_162, .int fh_163, .int fs_164, .int fc_165, .int fl_166, .int fe_167, .ref q1_174, .int fi_168, .int ft_169, .int fo_170, .int fa_171])), (q1_174, .inl (cA_175, an_172, .inl af_173)), (q2, .inl (cJ_176, 1, .inr (.inl ol_177))), (g0, .inr (1, [.int gt_178, .int gw_179, .int gh_180, .int gs_181, .int ge_182, .int gi_183, .int gk_184, .ref r1_192, .ref r2_193, .ref r3_194, .ref r4_195, .ref r5_196, .int go_185, .int ga_186])), (r1_192, .inl (cB1_197, 4096, .inl f1_187)), (r2_193, .inl (cB2_198, 4096, .inl f2_188)), (r3_194, .inl (cB3_199, 4096, .inl f3_189)), (r4_195, .inl (cB4_200, 4096, .inl f4_190)), (r5_196, .inl (cB5_201, 4096, .inl f5_191))]) [0, 1, 2, 3, 4, 5, 6, 7, 8] rfl
              have hD := hD.sub (ws' := [(h0, .inr (0, [.int fw_162, .int fh_163, .int fs_164, .int fc_165, .int fl_166, .int fe_167, .ref q1_174, .int fi_168, .int ft_169, .int fo_170, .int fa_171])), (q1_174, .inl (cA_175, an_172, .inl af_173)), (q2, .inl (cJ_176, 1, .inr (.inl ol_177))), (g0, .inr (1, [.int gt_178, .int gw_179, .int gh_180, .int gs_181, .int ge_182, .int gi_183, .int gk_184, .ref r1_192, .ref r2_193, .ref r3_194, .ref r4_195, .ref r5_196, .int go_185, .int ga_186])), (r1_192, .inl (cB1_197, 4096, .inl f1_187)), (r2_193, .inl (cB2_198, 4096, .inl f2_188)), (r3_194, .inl (cB3_199, 4096, .inl f3_189)), (r4_195, .inl (cB4_200, 4096, .inl f4_190)), (r5_196, .inl (cB5_201, 4096, .inl f5_191))]) [0, 1, 2, 3, 4, 5, 6, 7, 8] (by decide) rfl
              have hK := hK.sub (tys' := [(cA_175, .int), (cJ_176, .long), (cB1_197, .int), (cB2_198, .int), (cB3_199, .int), (cB4_200, .int), (cB5_201, .int)]) [0, 1, 2, 3, 4, 5, 6] rfl
              have hst := st_next hn9 hI hw1 hw2
              obtain ⟨e1, e2, hI⟩ := hst
              refine lv_istore (lv' := [(6, .int bb), (5, .int r), (4, .int (nI (6 * n))), (3, .ref q2), (2, .ref g0), (1, .ref h0), (0, .ref b)]) hx hb dL_law_366 hl (by decide) rfl (fun ls hl => ?_)
              refine lv_aload_n hx hb dL_law_368 rfl (lv_at hl 4 rfl) ?_
              refine ro_calli (va_runV (As := []) (rest := []) ⟨hx, hb, hml, hown, hts⟩ (mtX1_thrown l dC dI g0 r1_192 r2_193 r3_194 r4_195 r5_196 cB1_197 cB2_198 cB3_199 cB4_200 cB5_201 gt_178 gw_179 gh_180 gs_181 ge_182 gi_183 gk_184 go_185 ga_186 f1_187 f2_188 f3_189 f4_190 f5_191 H.size) (cwV 0 hts (gb_v kw_370 kw_371 kw_372 kw_23 kw_373) rfl rfl rfl (by decide +kernel) ⟨Nat.le_of_ble_eq_true rfl, Nat.le_of_ble_eq_true rfl⟩) ⟨ro_P.blind, va_recv hK hP (ci := 1) (q0 := 3) rfl rfl, ro_P.at (hP.sub [3, 4, 5, 6, 7, 8] rfl) (hK.sub [2, 3, 4, 5, 6] rfl)⟩ rfl rfl hl.1 rfl (lv_room (Nat.le_of_ble_eq_true rfl)) dL_law_369 ⟨(by show ((600 - d) + 1) + 0 ≤ 601024; omega), (by show ((3200000 - 6144 * d) + 6) + 0 ≤ 7293034; omega)⟩) hP hS hA (fun H locs hP hS hz hk => ?_)
              refine lv_iload hx hb dL_law_372 (lv_at hl 1 rfl) ?_
              refine lv_icmp_eq (tgt := 379) hx hb dL_law_374 (by decide) (fun c_202 => ?_) (fun c_202 => ?_)
              · refine lv_iload hx hb dL_law_379 (lv_at hl 1 rfl) ?_
                refine lv_if_ne (tgt := 396) hx hb dL_law_381 (by decide) (fun c_203 => ?_) (fun c_203 => ?_)
                · refine lv_goto (tgt := 659) hx hb dL_law_396 (by decide) ?_
                  refine lv_iinc (v := nI (6 * n) + 6) (lv' := [(4, .int (nI (6 * n) + 6)), (6, .int bb), (5, .int r), (3, .ref q2), (2, .ref g0), (1, .ref h0), (0, .ref b)]) hx hb dL_law_659 hl (k := 2) rfl (by rfl) (by decide) rfl (fun ls hl => ?_)
                  refine lv_goto (tgt := 23) hx hb dL_law_662 (by decide) ?_
                  rw [show nI (6 * n) + 6 = nI (6 * (n + 1)) by rw [lm_6, nI_add]; rfl] at hl
                  refine W.widen (k := 600 - (d - 1)) (n := 3200000 - 6144 * (d - 1)) (by show ((600 - d) + 1) ≤ _; omega) (by show ((3200000 - 6144 * d) + 6) ≤ _; omega) ?_
                  exact ih (d - 1) _ _ _ (by omega) ⟨n + 1, h0, q1_174, q2, g0, r1_192, r2_193, r3_194, r4_195, r5_196, cA_175, cJ_176, cB1_197, cB2_198, cB3_199, cB4_200, cB5_201, fw_162, fh_163, fs_164, fc_165, fl_166, fe_167, fi_168, ft_169, fo_170, fa_171, an_172, af_173, ol_177, gt_178, gw_179, gh_180, gs_181, ge_182, gi_183, gk_184, go_185, ga_186, f1_187, f2_188, f3_189, f4_190, f5_191, by omega, hI, hP, hK, hD, hS, lv_sub hl [0, 3, 4, 5, 6] rfl⟩
                · refine lv_aload_n hx hb dL_law_384 rfl (lv_at hl 3 rfl) ?_
                  refine lv_iconst (v := 0) hx hb dL_law_385 (by first | rfl | decide) ?_
                  refine va_lald hx hb hK hP 2 1 rfl rfl lm_01 dL_law_386 ?_
                  refine lv_iload hx hb dL_law_387 (lv_at hl 0 rfl) ?_
                  refine lv_i2l (v := bb.toInt64) hx hb dL_law_389 rfl ?_
                  refine W.lcmp hx hb dL_law_390 ?_
                  refine lv_if_eq (tgt := 396) hx hb dL_law_391 (by decide) (fun c_204 => ?_) (fun c_204 => ?_)
                  · refine lv_goto (tgt := 659) hx hb dL_law_396 (by decide) ?_
                    refine lv_iinc (v := nI (6 * n) + 6) (lv' := [(4, .int (nI (6 * n) + 6)), (6, .int bb), (5, .int r), (3, .ref q2), (2, .ref g0), (1, .ref h0), (0, .ref b)]) hx hb dL_law_659 hl (k := 2) rfl (by rfl) (by decide) rfl (fun ls hl => ?_)
                    refine lv_goto (tgt := 23) hx hb dL_law_662 (by decide) ?_
                    rw [show nI (6 * n) + 6 = nI (6 * (n + 1)) by rw [lm_6, nI_add]; rfl] at hl
                    refine W.widen (k := 600 - (d - 1)) (n := 3200000 - 6144 * (d - 1)) (by show ((600 - d) + 1) ≤ _; omega) (by show ((3200000 - 6144 * d) + 6) ≤ _; omega) ?_
                    exact ih (d - 1) _ _ _ (by omega) ⟨n + 1, h0, q1_174, q2, g0, r1_192, r2_193, r3_194, r4_195, r5_196, cA_175, cJ_176, cB1_197, cB2_198, cB3_199, cB4_200, cB5_201, fw_162, fh_163, fs_164, fc_165, fl_166, fe_167, fi_168, ft_169, fo_170, fa_171, an_172, af_173, ol_177, gt_178, gw_179, gh_180, gs_181, ge_182, gi_183, gk_184, go_185, ga_186, f1_187, f2_188, f3_189, f4_190, f5_191, by omega, hI, hP, hK, hD, hS, lv_sub hl [0, 3, 4, 5, 6] rfl⟩
                  · exact absurd ((lg_cmp_eq _ _).mpr (e2 c_203)) c_204
              · exact absurd e1 c_202
            · rcases Classical.em (((xs (nI (6 * n)).toNatClampNeg) &&& 15) = 5) with c_205 | c_205
              · refine lv_tableIn (off := 359) (tgt := 399) hx hb dL_law_40 (by rw [c_205]; decide) (by rw [c_205]; decide) (by rw [c_205]; rfl) (by decide) ?_
                refine lv_aload_n hx hb dL_law_399 rfl (lv_at hl 3 rfl) ?_
                refine lv_aload_n hx hb dL_law_400 rfl (lv_at hl 4 rfl) ?_
                refine lv_iload hx hb dL_law_401 (lv_at hl 0 rfl) ?_
                refine lv_iconst (v := 1) hx hb dL_law_403 (by first | rfl | decide) ?_
                refine lv_iadd hx hb dL_law_404 ?_
                refine va_sld hx hb hX hbl hbA hS (lw_ix (k := 1) (by decide) (by decide) hL hgo) dL_law_405 ?_
                refine lv_aload_n hx hb dL_law_406 rfl (lv_at hl 4 rfl) ?_
                refine lv_iload hx hb dL_law_407 (lv_at hl 0 rfl) ?_
                refine lv_iconst (v := 2) hx hb dL_law_409 (by first | rfl | decide) ?_
                refine lv_iadd hx hb dL_law_410 ?_
                refine va_sld hx hb hX hbl hbA hS (lw_ix (k := 2) (by decide) (by decide) hL hgo) dL_law_411 ?_
                refine lv_aload_n hx hb dL_law_412 rfl (lv_at hl 1 rfl) ?_
                have hPc := hP.sub (ws' := [(h0, .inr (0, [.int fw, .int fh, .int fs, .int fc, .int fl, .int fe, .ref q1, .int fi, .int ft, .int fo, .int fa])), (q1, .inl (cA, an, .inl af)), (q2, .inl (cJ, 1, .inr (.inl ol)))]) [0, 1, 2] rfl
                have hDc := hD.sub (ws' := [(h0, .inr (0, [.int fw, .int fh, .int fs, .int fc, .int fl, .int fe, .ref q1, .int fi, .int ft, .int fo, .int fa])), (q1, .inl (cA, an, .inl af)), (q2, .inl (cJ, 1, .inr (.inl ol)))]) [0, 1, 2] (by decide) rfl
                have hKc := hK.sub (tys' := [(cA, .int), (cJ, .long)]) [0, 1] rfl
                have hFc := va_free (wc := [(h0, .inr (0, [.int fw, .int fh, .int fs, .int fc, .int fl, .int fe, .ref q1, .int fi, .int ft, .int fo, .int fa])), (q1, .inl (cA, an, .inl af)), (q2, .inl (cJ, 1, .inr (.inl ol)))]) hD hS hA [0, 1, 2] rfl
                refine va_calli (vx_runSW (As := [.ref h0, .int (xs ((nI (6 * n)) + 1).toNatClampNeg), .int (xs ((nI (6 * n)) + 2).toNatClampNeg), .ref q2]) (rest := []) ⟨hx, hb, hml, hown, hts⟩ (mtL_item l hl9 dC dI h0 q1 q2 cA cJ fw fh fs fc fl fe fi ft fo fa an af ol H.size (xs ((nI (6 * n)) + 1).toNatClampNeg) (xs ((nI (6 * n)) + 2).toNatClampNeg) N hN hNb (by omega)) (vx_cwSW 4 hts (gb_s kw_272 kw_273 kw_21 kw_274) rfl rfl rfl (by decide +kernel) ⟨Nat.le_of_ble_eq_true rfl, Nat.le_of_ble_eq_true rfl⟩) ⟨zz_P.blind, zz_P.at hPc hKc hDc (hZ.kept hS.2.1) hFc⟩ rfl rfl hl.1 rfl (lv_room (Nat.le_of_ble_eq_true rfl)) dL_law_413 ⟨(by show (600 - d) + 1 ≤ 601024; omega), (by show (3200000 - 6144 * d) + 6 ≤ 7293034; omega)⟩) hS (fun q _ h => hFc q h) hFc (fun r u t H1 locs ht hvm hw1 hB hz1 hk1 hS => ?_)
                obtain ⟨⟨fw_206, fh_207, fs_208, fc_209, fl_210, fe_211, fi_212, ft_213, fo_214, fa_215, an_216, af_217⟩, ol_221⟩ := u
                obtain ⟨q1_218, cA_219, cJ_220, hP1, hK1, hD1⟩ := hB
                rw [ht] at hP1
                have hK1 := va_K.moved hvm.symm hK1
                obtain ⟨hP, hD⟩ := va_join (wr := [(g0, .inr (1, [.int gt, .int gw, .int gh, .int gs, .int ge, .int gi, .int gk, .ref r1, .ref r2, .ref r3, .ref r4, .ref r5, .int go, .int ga])), (r1, .inl (cB1, 4096, .inl f1)), (r2, .inl (cB2, 4096, .inl f2)), (r3, .inl (cB3, 4096, .inl f3)), (r4, .inl (cB4, 4096, .inl f4)), (r5, .inl (cB5, 4096, .inl f5))]) (w1 := [(h0, .inr (0, [.int fw_206, .int fh_207, .int fs_208, .int fc_209, .int fl_210, .int fe_211, .ref q1_218, .int fi_212, .int ft_213, .int fo_214, .int fa_215])), (q1_218, .inl (cA_219, an_216, .inl af_217)), (q2, .inl (cJ_220, 1, .inr (.inl ol_221)))]) hP hD [0, 1, 2] [3, 4, 5, 6, 7, 8] rfl rfl (by decide) (by decide) hk1 hFc hP1 hD1
                have hK := (hK.sub (tys' := [(cB1, .int), (cB2, .int), (cB3, .int), (cB4, .int), (cB5, .int)]) [2, 3, 4, 5, 6] rfl).app hK1
                generalize H1 = H at hP hS ⊢
                have hP := hP.sub (ws' := [(h0, .inr (0, [.int fw_206, .int fh_207, .int fs_208, .int fc_209, .int fl_210, .int fe_211, .ref q1_218, .int fi_212, .int ft_213, .int fo_214, .int fa_215])), (q1_218, .inl (cA_219, an_216, .inl af_217)), (q2, .inl (cJ_220, 1, .inr (.inl ol_221))), (g0, .inr (1, [.int gt, .int gw, .int gh, .int gs, .int ge, .int gi, .int gk, .ref r1, .ref r2, .ref r3, .ref r4, .ref r5, .int go, .int ga])), (r1, .inl (cB1, 4096, .inl f1)), (r2, .inl (cB2, 4096, .inl f2)), (r3, .inl (cB3, 4096, .inl f3)), (r4, .inl (cB4, 4096, .inl f4)), (r5, .inl (cB5, 4096, .inl f5))]) [6, 7, 8, 0, 1, 2, 3, 4, 5] rfl
                have hD := hD.sub (ws' := [(h0, .inr (0, [.int fw_206, .int fh_207, .int fs_208, .int fc_209, .int fl_210, .int fe_211, .ref q1_218, .int fi_212, .int ft_213, .int fo_214, .int fa_215])), (q1_218, .inl (cA_219, an_216, .inl af_217)), (q2, .inl (cJ_220, 1, .inr (.inl ol_221))), (g0, .inr (1, [.int gt, .int gw, .int gh, .int gs, .int ge, .int gi, .int gk, .ref r1, .ref r2, .ref r3, .ref r4, .ref r5, .int go, .int ga])), (r1, .inl (cB1, 4096, .inl f1)), (r2, .inl (cB2, 4096, .inl f2)), (r3, .inl (cB3, 4096, .inl f3)), (r4, .inl (cB4, 4096, .inl f4)), (r5, .inl (cB5, 4096, .inl f5))]) [6, 7, 8, 0, 1, 2, 3, 4, 5] (by decide) rfl
                have hK := hK.sub (tys' := [(cA_219, .int), (cJ_220, .long), (cB1, .int), (cB2, .int), (cB3, .int), (cB4, .int), (cB5, .int)]) [5, 6, 0, 1, 2, 3, 4] rfl
                refine lv_istore (lv' := [(5, .int r), (4, .int (nI (6 * n))), (3, .ref q2), (2, .ref g0), (1, .ref h0), (0, .ref b)]) hx hb dL_law_416 hl (by decide) rfl (fun ls hl => ?_)
                refine lv_aload_n hx hb dL_law_418 rfl (lv_at hl 3 rfl) ?_
                refine lv_aload_n hx hb dL_law_419 rfl (lv_at hl 5 rfl) ?_
                refine lv_iload hx hb dL_law_420 (lv_at hl 1 rfl) ?_
                refine lv_iconst (v := 1) hx hb dL_law_422 (by first | rfl | decide) ?_
                refine lv_iadd hx hb dL_law_423 ?_
                refine va_sld hx hb hX hbl hbA hS (lw_ix (k := 1) (by decide) (by decide) hL hgo) dL_law_424 ?_
                refine lv_aload_n hx hb dL_law_425 rfl (lv_at hl 5 rfl) ?_
                refine lv_iload hx hb dL_law_426 (lv_at hl 1 rfl) ?_
                refine lv_iconst (v := 2) hx hb dL_law_428 (by first | rfl | decide) ?_
                refine lv_iadd hx hb dL_law_429 ?_
                refine va_sld hx hb hX hbl hbA hS (lw_ix (k := 2) (by decide) (by decide) hL hgo) dL_law_430 ?_
                have hPc := hP.sub (ws' := [(g0, .inr (1, [.int gt, .int gw, .int gh, .int gs, .int ge, .int gi, .int gk, .ref r1, .ref r2, .ref r3, .ref r4, .ref r5, .int go, .int ga])), (r1, .inl (cB1, 4096, .inl f1)), (r2, .inl (cB2, 4096, .inl f2)), (r3, .inl (cB3, 4096, .inl f3)), (r4, .inl (cB4, 4096, .inl f4)), (r5, .inl (cB5, 4096, .inl f5))]) [3, 4, 5, 6, 7, 8] rfl
                have hDc := hD.sub (ws' := [(g0, .inr (1, [.int gt, .int gw, .int gh, .int gs, .int ge, .int gi, .int gk, .ref r1, .ref r2, .ref r3, .ref r4, .ref r5, .int go, .int ga])), (r1, .inl (cB1, 4096, .inl f1)), (r2, .inl (cB2, 4096, .inl f2)), (r3, .inl (cB3, 4096, .inl f3)), (r4, .inl (cB4, 4096, .inl f4)), (r5, .inl (cB5, 4096, .inl f5))]) [3, 4, 5, 6, 7, 8] (by decide) rfl
                have hKc := hK.sub (tys' := [(cB1, .int), (cB2, .int), (cB3, .int), (cB4, .int), (cB5, .int)]) [2, 3, 4, 5, 6] rfl
                have hFc := va_free (wc := [(g0, .inr (1, [.int gt, .int gw, .int gh, .int gs, .int ge, .int gi, .int gk, .ref r1, .ref r2, .ref r3, .ref r4, .ref r5, .int go, .int ga])), (r1, .inl (cB1, 4096, .inl f1)), (r2, .inl (cB2, 4096, .inl f2)), (r3, .inl (cB3, 4096, .inl f3)), (r4, .inl (cB4, 4096, .inl f4)), (r5, .inl (cB5, 4096, .inl f5))]) hD hS hA [3, 4, 5, 6, 7, 8] rfl
                refine va_calli (va_runV (As := [.int (xs ((nI (6 * n)) + 1).toNatClampNeg), .int (xs ((nI (6 * n)) + 2).toNatClampNeg)]) (rest := []) ⟨hx, hb, hml, hown, hts⟩ (mtX1_item l dC dI g0 r1 r2 r3 r4 r5 cB1 cB2 cB3 cB4 cB5 gt gw gh gs ge gi gk go ga f1 f2 f3 f4 f5 H.size (xs ((nI (6 * n)) + 1).toNatClampNeg) (xs ((nI (6 * n)) + 2).toNatClampNeg) hs0 hac N hN2 hN4 TT hT hT31) (cwV 2 hts (gb_v kw_438 kw_439 kw_440 kw_23 kw_441) rfl rfl rfl (by decide +kernel) ⟨Nat.le_of_ble_eq_true rfl, Nat.le_of_ble_eq_true rfl⟩) ⟨mu_P.blind, va_recv hKc hPc (ci := 1) (q0 := 0) rfl rfl, mu_P.at hPc hKc hDc⟩ rfl rfl hl.1 rfl (lv_room (Nat.le_of_ble_eq_true rfl)) dL_law_431 ⟨(by show ((600 - d) + 1) + 0 ≤ 601024; omega), (by show ((3200000 - 6144 * d) + 6) + 0 ≤ 7293034; omega)⟩) hS (fun q _ h => hFc q h) hFc (fun bb u t H1 locs ht hvm hw2 hB hz1 hk1 hS => ?_)
                obtain ⟨gt_222, gw_223, gh_224, gs_225, ge_226, gi_227, gk_228, go_229, ga_230, f1_231, f2_232, f3_233, f4_234, f5_235⟩ := u
                obtain ⟨r1_236, r2_237, r3_238, r4_239, r5_240, cB1_241, cB2_242, cB3_243, cB4_244, cB5_245, hP1, hK1, hD1⟩ := hB
                rw [ht] at hP1
                have hK1 := va_K.moved hvm.symm hK1
                obtain ⟨hP, hD⟩ := va_join (wr := [(h0, .inr (0, [.int fw_206, .int fh_207, .int fs_208, .int fc_209, .int fl_210, .int fe_211, .ref q1_218, .int fi_212, .int ft_213, .int fo_214, .int fa_215])), (q1_218, .inl (cA_219, an_216, .inl af_217)), (q2, .inl (cJ_220, 1, .inr (.inl ol_221)))]) (w1 := [(g0, .inr (1, [.int gt_222, .int gw_223, .int gh_224, .int gs_225, .int ge_226, .int gi_227, .int gk_228, .ref r1_236, .ref r2_237, .ref r3_238, .ref r4_239, .ref r5_240, .int go_229, .int ga_230])), (r1_236, .inl (cB1_241, 4096, .inl f1_231)), (r2_237, .inl (cB2_242, 4096, .inl f2_232)), (r3_238, .inl (cB3_243, 4096, .inl f3_233)), (r4_239, .inl (cB4_244, 4096, .inl f4_234)), (r5_240, .inl (cB5_245, 4096, .inl f5_235))]) hP hD [3, 4, 5, 6, 7, 8] [0, 1, 2] rfl rfl (by decide) (by decide) hk1 hFc hP1 hD1
                have hK := (hK.sub (tys' := [(cA_219, .int), (cJ_220, .long)]) [0, 1] rfl).app hK1
                generalize H1 = H at hP hS ⊢
                have hP := hP.sub (ws' := [(h0, .inr (0, [.int fw_206, .int fh_207, .int fs_208, .int fc_209, .int fl_210, .int fe_211, .ref q1_218, .int fi_212, .int ft_213, .int fo_214, .int fa_215])), (q1_218, .inl (cA_219, an_216, .inl af_217)), (q2, .inl (cJ_220, 1, .inr (.inl ol_221))), (g0, .inr (1, [.int gt_222, .int gw_223, .int gh_224, .int gs_225, .int ge_226, .int gi_227, .int gk_228, .ref r1_236, .ref r2_237, .ref r3_238, .ref r4_239, .ref r5_240, .int go_229, .int ga_230])), (r1_236, .inl (cB1_241, 4096, .inl f1_231)), (r2_237, .inl (cB2_242, 4096, .inl f2_232)), (r3_238, .inl (cB3_243, 4096, .inl f3_233)), (r4_239, .inl (cB4_244, 4096, .inl f4_234)), (r5_240, .inl (cB5_245, 4096, .inl f5_235))]) [0, 1, 2, 3, 4, 5, 6, 7, 8] rfl
                have hD := hD.sub (ws' := [(h0, .inr (0, [.int fw_206, .int fh_207, .int fs_208, .int fc_209, .int fl_210, .int fe_211, .ref q1_218, .int fi_212, .int ft_213, .int fo_214, .int fa_215])), (q1_218, .inl (cA_219, an_216, .inl af_217)), (q2, .inl (cJ_220, 1, .inr (.inl ol_221))), (g0, .inr (1, [.int gt_222, .int gw_223, .int gh_224, .int gs_225, .int ge_226, .int gi_227, .int gk_228, .ref r1_236, .ref r2_237, .ref r3_238, .ref r4_239, .ref r5_240, .int go_229, .int ga_230])), (r1_236, .inl (cB1_241, 4096, .inl f1_231)), (r2_237, .inl (cB2_242, 4096, .inl f2_232)), (r3_238, .inl (cB3_243, 4096, .inl f3_233)), (r4_239, .inl (cB4_244, 4096, .inl f4_234)), (r5_240, .inl (cB5_245, 4096, .inl f5_235))]) [0, 1, 2, 3, 4, 5, 6, 7, 8] (by decide) rfl
                have hK := hK.sub (tys' := [(cA_219, .int), (cJ_220, .long), (cB1_241, .int), (cB2_242, .int), (cB3_243, .int), (cB4_244, .int), (cB5_245, .int)]) [0, 1, 2, 3, 4, 5, 6] rfl
                have hst := st_item hn9 hI hw1 hw2
                obtain ⟨e1, e2, hI⟩ := hst
                refine lv_istore (lv' := [(6, .int bb), (5, .int r), (4, .int (nI (6 * n))), (3, .ref q2), (2, .ref g0), (1, .ref h0), (0, .ref b)]) hx hb dL_law_434 hl (by decide) rfl (fun ls hl => ?_)
                refine lv_aload_n hx hb dL_law_436 rfl (lv_at hl 4 rfl) ?_
                refine ro_calli (va_runV (As := []) (rest := []) ⟨hx, hb, hml, hown, hts⟩ (mtX1_thrown l dC dI g0 r1_236 r2_237 r3_238 r4_239 r5_240 cB1_241 cB2_242 cB3_243 cB4_244 cB5_245 gt_222 gw_223 gh_224 gs_225 ge_226 gi_227 gk_228 go_229 ga_230 f1_231 f2_232 f3_233 f4_234 f5_235 H.size) (cwV 0 hts (gb_v kw_370 kw_371 kw_372 kw_23 kw_373) rfl rfl rfl (by decide +kernel) ⟨Nat.le_of_ble_eq_true rfl, Nat.le_of_ble_eq_true rfl⟩) ⟨ro_P.blind, va_recv hK hP (ci := 1) (q0 := 3) rfl rfl, ro_P.at (hP.sub [3, 4, 5, 6, 7, 8] rfl) (hK.sub [2, 3, 4, 5, 6] rfl)⟩ rfl rfl hl.1 rfl (lv_room (Nat.le_of_ble_eq_true rfl)) dL_law_437 ⟨(by show ((600 - d) + 1) + 0 ≤ 601024; omega), (by show ((3200000 - 6144 * d) + 6) + 0 ≤ 7293034; omega)⟩) hP hS hA (fun H locs hP hS hz hk => ?_)
                refine lv_iload hx hb dL_law_440 (lv_at hl 1 rfl) ?_
                refine lv_icmp_eq (tgt := 447) hx hb dL_law_442 (by decide) (fun c_246 => ?_) (fun c_246 => ?_)
                · refine lv_iload hx hb dL_law_447 (lv_at hl 1 rfl) ?_
                  refine lv_if_ne (tgt := 464) hx hb dL_law_449 (by decide) (fun c_247 => ?_) (fun c_247 => ?_)
                  · refine lv_goto (tgt := 659) hx hb dL_law_464 (by decide) ?_
                    refine lv_iinc (v := nI (6 * n) + 6) (lv' := [(4, .int (nI (6 * n) + 6)), (6, .int bb), (5, .int r), (3, .ref q2), (2, .ref g0), (1, .ref h0), (0, .ref b)]) hx hb dL_law_659 hl (k := 2) rfl (by rfl) (by decide) rfl (fun ls hl => ?_)
                    refine lv_goto (tgt := 23) hx hb dL_law_662 (by decide) ?_
                    rw [show nI (6 * n) + 6 = nI (6 * (n + 1)) by rw [lm_6, nI_add]; rfl] at hl
                    refine W.widen (k := 600 - (d - 1)) (n := 3200000 - 6144 * (d - 1)) (by show ((600 - d) + 1) ≤ _; omega) (by show ((3200000 - 6144 * d) + 6) ≤ _; omega) ?_
                    exact ih (d - 1) _ _ _ (by omega) ⟨n + 1, h0, q1_218, q2, g0, r1_236, r2_237, r3_238, r4_239, r5_240, cA_219, cJ_220, cB1_241, cB2_242, cB3_243, cB4_244, cB5_245, fw_206, fh_207, fs_208, fc_209, fl_210, fe_211, fi_212, ft_213, fo_214, fa_215, an_216, af_217, ol_221, gt_222, gw_223, gh_224, gs_225, ge_226, gi_227, gk_228, go_229, ga_230, f1_231, f2_232, f3_233, f4_234, f5_235, by omega, hI, hP, hK, hD, hS, lv_sub hl [0, 3, 4, 5, 6] rfl⟩
                  · refine lv_aload_n hx hb dL_law_452 rfl (lv_at hl 3 rfl) ?_
                    refine lv_iconst (v := 0) hx hb dL_law_453 (by first | rfl | decide) ?_
                    refine va_lald hx hb hK hP 2 1 rfl rfl lm_01 dL_law_454 ?_
                    refine lv_iload hx hb dL_law_455 (lv_at hl 0 rfl) ?_
                    refine lv_i2l (v := bb.toInt64) hx hb dL_law_457 rfl ?_
                    refine W.lcmp hx hb dL_law_458 ?_
                    refine lv_if_eq (tgt := 464) hx hb dL_law_459 (by decide) (fun c_248 => ?_) (fun c_248 => ?_)
                    · refine lv_goto (tgt := 659) hx hb dL_law_464 (by decide) ?_
                      refine lv_iinc (v := nI (6 * n) + 6) (lv' := [(4, .int (nI (6 * n) + 6)), (6, .int bb), (5, .int r), (3, .ref q2), (2, .ref g0), (1, .ref h0), (0, .ref b)]) hx hb dL_law_659 hl (k := 2) rfl (by rfl) (by decide) rfl (fun ls hl => ?_)
                      refine lv_goto (tgt := 23) hx hb dL_law_662 (by decide) ?_
                      rw [show nI (6 * n) + 6 = nI (6 * (n + 1)) by rw [lm_6, nI_add]; rfl] at hl
                      refine W.widen (k := 600 - (d - 1)) (n := 3200000 - 6144 * (d - 1)) (by show ((600 - d) + 1) ≤ _; omega) (by show ((3200000 - 6144 * d) + 6) ≤ _; omega) ?_
                      exact ih (d - 1) _ _ _ (by omega) ⟨n + 1, h0, q1_218, q2, g0, r1_236, r2_237, r3_238, r4_239, r5_240, cA_219, cJ_220, cB1_241, cB2_242, cB3_243, cB4_244, cB5_245, fw_206, fh_207, fs_208, fc_209, fl_210, fe_211, fi_212, ft_213, fo_214, fa_215, an_216, af_217, ol_221, gt_222, gw_223, gh_224, gs_225, ge_226, gi_227, gk_228, go_229, ga_230, f1_231, f2_232, f3_233, f4_234, f5_235, by omega, hI, hP, hK, hD, hS, lv_sub hl [0, 3, 4, 5, 6] rfl⟩
                    · exact absurd ((lg_cmp_eq _ _).mpr (e2 c_247)) c_248
                · exact absurd e1 c_246
              · rcases Classical.em (((xs (nI (6 * n)).toNatClampNeg) &&& 15) = 6) with c_249 | c_249
                · refine lv_tableIn (off := 427) (tgt := 467) hx hb dL_law_40 (by rw [c_249]; decide) (by rw [c_249]; decide) (by rw [c_249]; rfl) (by decide) ?_
                  refine lv_aload_n hx hb dL_law_467 rfl (lv_at hl 3 rfl) ?_
                  refine lv_aload_n hx hb dL_law_468 rfl (lv_at hl 4 rfl) ?_
                  refine lv_iload hx hb dL_law_469 (lv_at hl 0 rfl) ?_
                  refine lv_iconst (v := 1) hx hb dL_law_471 (by first | rfl | decide) ?_
                  refine lv_iadd hx hb dL_law_472 ?_
                  refine va_sld hx hb hX hbl hbA hS (lw_ix (k := 1) (by decide) (by decide) hL hgo) dL_law_473 ?_
                  refine lv_aload_n hx hb dL_law_474 rfl (lv_at hl 4 rfl) ?_
                  refine lv_iload hx hb dL_law_475 (lv_at hl 0 rfl) ?_
                  refine lv_iconst (v := 2) hx hb dL_law_477 (by first | rfl | decide) ?_
                  refine lv_iadd hx hb dL_law_478 ?_
                  refine va_sld hx hb hX hbl hbA hS (lw_ix (k := 2) (by decide) (by decide) hL hgo) dL_law_479 ?_
                  refine lv_aload_n hx hb dL_law_480 rfl (lv_at hl 1 rfl) ?_
                  have hPc := hP.sub (ws' := [(h0, .inr (0, [.int fw, .int fh, .int fs, .int fc, .int fl, .int fe, .ref q1, .int fi, .int ft, .int fo, .int fa])), (q1, .inl (cA, an, .inl af)), (q2, .inl (cJ, 1, .inr (.inl ol)))]) [0, 1, 2] rfl
                  have hDc := hD.sub (ws' := [(h0, .inr (0, [.int fw, .int fh, .int fs, .int fc, .int fl, .int fe, .ref q1, .int fi, .int ft, .int fo, .int fa])), (q1, .inl (cA, an, .inl af)), (q2, .inl (cJ, 1, .inr (.inl ol)))]) [0, 1, 2] (by decide) rfl
                  have hKc := hK.sub (tys' := [(cA, .int), (cJ, .long)]) [0, 1] rfl
                  have hFc := va_free (wc := [(h0, .inr (0, [.int fw, .int fh, .int fs, .int fc, .int fl, .int fe, .ref q1, .int fi, .int ft, .int fo, .int fa])), (q1, .inl (cA, an, .inl af)), (q2, .inl (cJ, 1, .inr (.inl ol)))]) hD hS hA [0, 1, 2] rfl
                  refine va_calli (vx_runSW (As := [.ref h0, .int (xs ((nI (6 * n)) + 1).toNatClampNeg), .int (xs ((nI (6 * n)) + 2).toNatClampNeg), .ref q2]) (rest := []) ⟨hx, hb, hml, hown, hts⟩ (mtL_tile l hl9 dC dI h0 q1 q2 cA cJ fw fh fs fc fl fe fi ft fo fa an af ol H.size (xs ((nI (6 * n)) + 1).toNatClampNeg) (xs ((nI (6 * n)) + 2).toNatClampNeg) N hN hNb (by omega)) (vx_cwSW 4 hts (gb_s kw_297 kw_298 kw_21 kw_299) rfl rfl rfl (by decide +kernel) ⟨Nat.le_of_ble_eq_true rfl, Nat.le_of_ble_eq_true rfl⟩) ⟨zz_P.blind, zz_P.at hPc hKc hDc (hZ.kept hS.2.1) hFc⟩ rfl rfl hl.1 rfl (lv_room (Nat.le_of_ble_eq_true rfl)) dL_law_481 ⟨(by show (600 - d) + 1 ≤ 601024; omega), (by show (3200000 - 6144 * d) + 6 ≤ 7293034; omega)⟩) hS (fun q _ h => hFc q h) hFc (fun r u t H1 locs ht hvm hw1 hB hz1 hk1 hS => ?_)
                  obtain ⟨⟨fw_250, fh_251, fs_252, fc_253, fl_254, fe_255, fi_256, ft_257, fo_258, fa_259, an_260, af_261⟩, ol_265⟩ := u
                  obtain ⟨q1_262, cA_263, cJ_264, hP1, hK1, hD1⟩ := hB
                  rw [ht] at hP1
                  have hK1 := va_K.moved hvm.symm hK1
                  obtain ⟨hP, hD⟩ := va_join (wr := [(g0, .inr (1, [.int gt, .int gw, .int gh, .int gs, .int ge, .int gi, .int gk, .ref r1, .ref r2, .ref r3, .ref r4, .ref r5, .int go, .int ga])), (r1, .inl (cB1, 4096, .inl f1)), (r2, .inl (cB2, 4096, .inl f2)), (r3, .inl (cB3, 4096, .inl f3)), (r4, .inl (cB4, 4096, .inl f4)), (r5, .inl (cB5, 4096, .inl f5))]) (w1 := [(h0, .inr (0, [.int fw_250, .int fh_251, .int fs_252, .int fc_253, .int fl_254, .int fe_255, .ref q1_262, .int fi_256, .int ft_257, .int fo_258, .int fa_259])), (q1_262, .inl (cA_263, an_260, .inl af_261)), (q2, .inl (cJ_264, 1, .inr (.inl ol_265)))]) hP hD [0, 1, 2] [3, 4, 5, 6, 7, 8] rfl rfl (by decide) (by decide) hk1 hFc hP1 hD1
                  have hK := (hK.sub (tys' := [(cB1, .int), (cB2, .int), (cB3, .int), (cB4, .int), (cB5, .int)]) [2, 3, 4, 5, 6] rfl).app hK1
                  generalize H1 = H at hP hS ⊢
                  have hP := hP.sub (ws' := [(h0, .inr (0, [.int fw_250, .int fh_251, .int fs_252, .int fc_253, .int fl_254, .int fe_255, .ref q1_262, .int fi_256, .int ft_257, .int fo_258, .int fa_259])), (q1_262, .inl (cA_263, an_260, .inl af_261)), (q2, .inl (cJ_264, 1, .inr (.inl ol_265))), (g0, .inr (1, [.int gt, .int gw, .int gh, .int gs, .int ge, .int gi, .int gk, .ref r1, .ref r2, .ref r3, .ref r4, .ref r5, .int go, .int ga])), (r1, .inl (cB1, 4096, .inl f1)), (r2, .inl (cB2, 4096, .inl f2)), (r3, .inl (cB3, 4096, .inl f3)), (r4, .inl (cB4, 4096, .inl f4)), (r5, .inl (cB5, 4096, .inl f5))]) [6, 7, 8, 0, 1, 2, 3, 4, 5] rfl
                  have hD := hD.sub (ws' := [(h0, .inr (0, [.int fw_250, .int fh_251, .int fs_252, .int fc_253, .int fl_254, .int fe_255, .ref q1_262, .int fi_256, .int ft_257, .int fo_258, .int fa_259])), (q1_262, .inl (cA_263, an_260, .inl af_261)), (q2, .inl (cJ_264, 1, .inr (.inl ol_265))), (g0, .inr (1, [.int gt, .int gw, .int gh, .int gs, .int ge, .int gi, .int gk, .ref r1, .ref r2, .ref r3, .ref r4, .ref r5, .int go, .int ga])), (r1, .inl (cB1, 4096, .inl f1)), (r2, .inl (cB2, 4096, .inl f2)), (r3, .inl (cB3, 4096, .inl f3)), (r4, .inl (cB4, 4096, .inl f4)), (r5, .inl (cB5, 4096, .inl f5))]) [6, 7, 8, 0, 1, 2, 3, 4, 5] (by decide) rfl
                  have hK := hK.sub (tys' := [(cA_263, .int), (cJ_264, .long), (cB1, .int), (cB2, .int), (cB3, .int), (cB4, .int), (cB5, .int)]) [5, 6, 0, 1, 2, 3, 4] rfl
                  refine lv_istore (lv' := [(5, .int r), (4, .int (nI (6 * n))), (3, .ref q2), (2, .ref g0), (1, .ref h0), (0, .ref b)]) hx hb dL_law_484 hl (by decide) rfl (fun ls hl => ?_)
                  refine lv_aload_n hx hb dL_law_486 rfl (lv_at hl 3 rfl) ?_
                  refine lv_aload_n hx hb dL_law_487 rfl (lv_at hl 5 rfl) ?_
                  refine lv_iload hx hb dL_law_488 (lv_at hl 1 rfl) ?_
                  refine lv_iconst (v := 1) hx hb dL_law_490 (by first | rfl | decide) ?_
                  refine lv_iadd hx hb dL_law_491 ?_
                  refine va_sld hx hb hX hbl hbA hS (lw_ix (k := 1) (by decide) (by decide) hL hgo) dL_law_492 ?_
                  refine lv_aload_n hx hb dL_law_493 rfl (lv_at hl 5 rfl) ?_
                  refine lv_iload hx hb dL_law_494 (lv_at hl 1 rfl) ?_
                  refine lv_iconst (v := 2) hx hb dL_law_496 (by first | rfl | decide) ?_
                  refine lv_iadd hx hb dL_law_497 ?_
                  refine va_sld hx hb hX hbl hbA hS (lw_ix (k := 2) (by decide) (by decide) hL hgo) dL_law_498 ?_
                  have hPc := hP.sub (ws' := [(g0, .inr (1, [.int gt, .int gw, .int gh, .int gs, .int ge, .int gi, .int gk, .ref r1, .ref r2, .ref r3, .ref r4, .ref r5, .int go, .int ga])), (r1, .inl (cB1, 4096, .inl f1)), (r2, .inl (cB2, 4096, .inl f2)), (r3, .inl (cB3, 4096, .inl f3)), (r4, .inl (cB4, 4096, .inl f4)), (r5, .inl (cB5, 4096, .inl f5))]) [3, 4, 5, 6, 7, 8] rfl
                  have hDc := hD.sub (ws' := [(g0, .inr (1, [.int gt, .int gw, .int gh, .int gs, .int ge, .int gi, .int gk, .ref r1, .ref r2, .ref r3, .ref r4, .ref r5, .int go, .int ga])), (r1, .inl (cB1, 4096, .inl f1)), (r2, .inl (cB2, 4096, .inl f2)), (r3, .inl (cB3, 4096, .inl f3)), (r4, .inl (cB4, 4096, .inl f4)), (r5, .inl (cB5, 4096, .inl f5))]) [3, 4, 5, 6, 7, 8] (by decide) rfl
                  have hKc := hK.sub (tys' := [(cB1, .int), (cB2, .int), (cB3, .int), (cB4, .int), (cB5, .int)]) [2, 3, 4, 5, 6] rfl
                  have hFc := va_free (wc := [(g0, .inr (1, [.int gt, .int gw, .int gh, .int gs, .int ge, .int gi, .int gk, .ref r1, .ref r2, .ref r3, .ref r4, .ref r5, .int go, .int ga])), (r1, .inl (cB1, 4096, .inl f1)), (r2, .inl (cB2, 4096, .inl f2)), (r3, .inl (cB3, 4096, .inl f3)), (r4, .inl (cB4, 4096, .inl f4)), (r5, .inl (cB5, 4096, .inl f5))]) hD hS hA [3, 4, 5, 6, 7, 8] rfl
                  refine va_calli (va_runV (As := [.int (xs ((nI (6 * n)) + 1).toNatClampNeg), .int (xs ((nI (6 * n)) + 2).toNatClampNeg)]) (rest := []) ⟨hx, hb, hml, hown, hts⟩ (mtX1_tile l dC dI g0 r1 r2 r3 r4 r5 cB1 cB2 cB3 cB4 cB5 gt gw gh gs ge gi gk go ga f1 f2 f3 f4 f5 H.size (xs ((nI (6 * n)) + 1).toNatClampNeg) (xs ((nI (6 * n)) + 2).toNatClampNeg) hs0 hac N hN2 hN4 TT hT hT31) (cwV 2 hts (gb_v kw_442 kw_443 kw_444 kw_23 kw_445) rfl rfl rfl (by decide +kernel) ⟨Nat.le_of_ble_eq_true rfl, Nat.le_of_ble_eq_true rfl⟩) ⟨mu_P.blind, va_recv hKc hPc (ci := 1) (q0 := 0) rfl rfl, mu_P.at hPc hKc hDc⟩ rfl rfl hl.1 rfl (lv_room (Nat.le_of_ble_eq_true rfl)) dL_law_499 ⟨(by show ((600 - d) + 1) + 0 ≤ 601024; omega), (by show ((3200000 - 6144 * d) + 6) + 0 ≤ 7293034; omega)⟩) hS (fun q _ h => hFc q h) hFc (fun bb u t H1 locs ht hvm hw2 hB hz1 hk1 hS => ?_)
                  obtain ⟨gt_266, gw_267, gh_268, gs_269, ge_270, gi_271, gk_272, go_273, ga_274, f1_275, f2_276, f3_277, f4_278, f5_279⟩ := u
                  obtain ⟨r1_280, r2_281, r3_282, r4_283, r5_284, cB1_285, cB2_286, cB3_287, cB4_288, cB5_289, hP1, hK1, hD1⟩ := hB
                  rw [ht] at hP1
                  have hK1 := va_K.moved hvm.symm hK1
                  obtain ⟨hP, hD⟩ := va_join (wr := [(h0, .inr (0, [.int fw_250, .int fh_251, .int fs_252, .int fc_253, .int fl_254, .int fe_255, .ref q1_262, .int fi_256, .int ft_257, .int fo_258, .int fa_259])), (q1_262, .inl (cA_263, an_260, .inl af_261)), (q2, .inl (cJ_264, 1, .inr (.inl ol_265)))]) (w1 := [(g0, .inr (1, [.int gt_266, .int gw_267, .int gh_268, .int gs_269, .int ge_270, .int gi_271, .int gk_272, .ref r1_280, .ref r2_281, .ref r3_282, .ref r4_283, .ref r5_284, .int go_273, .int ga_274])), (r1_280, .inl (cB1_285, 4096, .inl f1_275)), (r2_281, .inl (cB2_286, 4096, .inl f2_276)), (r3_282, .inl (cB3_287, 4096, .inl f3_277)), (r4_283, .inl (cB4_288, 4096, .inl f4_278)), (r5_284, .inl (cB5_289, 4096, .inl f5_279))]) hP hD [3, 4, 5, 6, 7, 8] [0, 1, 2] rfl rfl (by decide) (by decide) hk1 hFc hP1 hD1
                  have hK := (hK.sub (tys' := [(cA_263, .int), (cJ_264, .long)]) [0, 1] rfl).app hK1
                  generalize H1 = H at hP hS ⊢
                  have hP := hP.sub (ws' := [(h0, .inr (0, [.int fw_250, .int fh_251, .int fs_252, .int fc_253, .int fl_254, .int fe_255, .ref q1_262, .int fi_256, .int ft_257, .int fo_258, .int fa_259])), (q1_262, .inl (cA_263, an_260, .inl af_261)), (q2, .inl (cJ_264, 1, .inr (.inl ol_265))), (g0, .inr (1, [.int gt_266, .int gw_267, .int gh_268, .int gs_269, .int ge_270, .int gi_271, .int gk_272, .ref r1_280, .ref r2_281, .ref r3_282, .ref r4_283, .ref r5_284, .int go_273, .int ga_274])), (r1_280, .inl (cB1_285, 4096, .inl f1_275)), (r2_281, .inl (cB2_286, 4096, .inl f2_276)), (r3_282, .inl (cB3_287, 4096, .inl f3_277)), (r4_283, .inl (cB4_288, 4096, .inl f4_278)), (r5_284, .inl (cB5_289, 4096, .inl f5_279))]) [0, 1, 2, 3, 4, 5, 6, 7, 8] rfl
                  have hD := hD.sub (ws' := [(h0, .inr (0, [.int fw_250, .int fh_251, .int fs_252, .int fc_253, .int fl_254, .int fe_255, .ref q1_262, .int fi_256, .int ft_257, .int fo_258, .int fa_259])), (q1_262, .inl (cA_263, an_260, .inl af_261)), (q2, .inl (cJ_264, 1, .inr (.inl ol_265))), (g0, .inr (1, [.int gt_266, .int gw_267, .int gh_268, .int gs_269, .int ge_270, .int gi_271, .int gk_272, .ref r1_280, .ref r2_281, .ref r3_282, .ref r4_283, .ref r5_284, .int go_273, .int ga_274])), (r1_280, .inl (cB1_285, 4096, .inl f1_275)), (r2_281, .inl (cB2_286, 4096, .inl f2_276)), (r3_282, .inl (cB3_287, 4096, .inl f3_277)), (r4_283, .inl (cB4_288, 4096, .inl f4_278)), (r5_284, .inl (cB5_289, 4096, .inl f5_279))]) [0, 1, 2, 3, 4, 5, 6, 7, 8] (by decide) rfl
                  have hK := hK.sub (tys' := [(cA_263, .int), (cJ_264, .long), (cB1_285, .int), (cB2_286, .int), (cB3_287, .int), (cB4_288, .int), (cB5_289, .int)]) [0, 1, 2, 3, 4, 5, 6] rfl
                  have hst := st_tile hn9 hI hw1 hw2
                  obtain ⟨e1, e2, hI⟩ := hst
                  refine lv_istore (lv' := [(6, .int bb), (5, .int r), (4, .int (nI (6 * n))), (3, .ref q2), (2, .ref g0), (1, .ref h0), (0, .ref b)]) hx hb dL_law_502 hl (by decide) rfl (fun ls hl => ?_)
                  refine lv_aload_n hx hb dL_law_504 rfl (lv_at hl 4 rfl) ?_
                  refine ro_calli (va_runV (As := []) (rest := []) ⟨hx, hb, hml, hown, hts⟩ (mtX1_thrown l dC dI g0 r1_280 r2_281 r3_282 r4_283 r5_284 cB1_285 cB2_286 cB3_287 cB4_288 cB5_289 gt_266 gw_267 gh_268 gs_269 ge_270 gi_271 gk_272 go_273 ga_274 f1_275 f2_276 f3_277 f4_278 f5_279 H.size) (cwV 0 hts (gb_v kw_370 kw_371 kw_372 kw_23 kw_373) rfl rfl rfl (by decide +kernel) ⟨Nat.le_of_ble_eq_true rfl, Nat.le_of_ble_eq_true rfl⟩) ⟨ro_P.blind, va_recv hK hP (ci := 1) (q0 := 3) rfl rfl, ro_P.at (hP.sub [3, 4, 5, 6, 7, 8] rfl) (hK.sub [2, 3, 4, 5, 6] rfl)⟩ rfl rfl hl.1 rfl (lv_room (Nat.le_of_ble_eq_true rfl)) dL_law_505 ⟨(by show ((600 - d) + 1) + 0 ≤ 601024; omega), (by show ((3200000 - 6144 * d) + 6) + 0 ≤ 7293034; omega)⟩) hP hS hA (fun H locs hP hS hz hk => ?_)
                  refine lv_iload hx hb dL_law_508 (lv_at hl 1 rfl) ?_
                  refine lv_icmp_eq (tgt := 515) hx hb dL_law_510 (by decide) (fun c_290 => ?_) (fun c_290 => ?_)
                  · refine lv_iload hx hb dL_law_515 (lv_at hl 1 rfl) ?_
                    refine lv_if_ne (tgt := 532) hx hb dL_law_517 (by decide) (fun c_291 => ?_) (fun c_291 => ?_)
                    · refine lv_goto (tgt := 659) hx hb dL_law_532 (by decide) ?_
                      refine lv_iinc (v := nI (6 * n) + 6) (lv' := [(4, .int (nI (6 * n) + 6)), (6, .int bb), (5, .int r), (3, .ref q2), (2, .ref g0), (1, .ref h0), (0, .ref b)]) hx hb dL_law_659 hl (k := 2) rfl (by rfl) (by decide) rfl (fun ls hl => ?_)
                      refine lv_goto (tgt := 23) hx hb dL_law_662 (by decide) ?_
                      rw [show nI (6 * n) + 6 = nI (6 * (n + 1)) by rw [lm_6, nI_add]; rfl] at hl
                      refine W.widen (k := 600 - (d - 1)) (n := 3200000 - 6144 * (d - 1)) (by show ((600 - d) + 1) ≤ _; omega) (by show ((3200000 - 6144 * d) + 6) ≤ _; omega) ?_
                      exact ih (d - 1) _ _ _ (by omega) ⟨n + 1, h0, q1_262, q2, g0, r1_280, r2_281, r3_282, r4_283, r5_284, cA_263, cJ_264, cB1_285, cB2_286, cB3_287, cB4_288, cB5_289, fw_250, fh_251, fs_252, fc_253, fl_254, fe_255, fi_256, ft_257, fo_258, fa_259, an_260, af_261, ol_265, gt_266, gw_267, gh_268, gs_269, ge_270, gi_271, gk_272, go_273, ga_274, f1_275, f2_276, f3_277, f4_278, f5_279, by omega, hI, hP, hK, hD, hS, lv_sub hl [0, 3, 4, 5, 6] rfl⟩
                    · refine lv_aload_n hx hb dL_law_520 rfl (lv_at hl 3 rfl) ?_
                      refine lv_iconst (v := 0) hx hb dL_law_521 (by first | rfl | decide) ?_
                      refine va_lald hx hb hK hP 2 1 rfl rfl lm_01 dL_law_522 ?_
                      refine lv_iload hx hb dL_law_523 (lv_at hl 0 rfl) ?_
                      refine lv_i2l (v := bb.toInt64) hx hb dL_law_525 rfl ?_
                      refine W.lcmp hx hb dL_law_526 ?_
                      refine lv_if_eq (tgt := 532) hx hb dL_law_527 (by decide) (fun c_292 => ?_) (fun c_292 => ?_)
                      · refine lv_goto (tgt := 659) hx hb dL_law_532 (by decide) ?_
                        refine lv_iinc (v := nI (6 * n) + 6) (lv' := [(4, .int (nI (6 * n) + 6)), (6, .int bb), (5, .int r), (3, .ref q2), (2, .ref g0), (1, .ref h0), (0, .ref b)]) hx hb dL_law_659 hl (k := 2) rfl (by rfl) (by decide) rfl (fun ls hl => ?_)
                        refine lv_goto (tgt := 23) hx hb dL_law_662 (by decide) ?_
                        rw [show nI (6 * n) + 6 = nI (6 * (n + 1)) by rw [lm_6, nI_add]; rfl] at hl
                        refine W.widen (k := 600 - (d - 1)) (n := 3200000 - 6144 * (d - 1)) (by show ((600 - d) + 1) ≤ _; omega) (by show ((3200000 - 6144 * d) + 6) ≤ _; omega) ?_
                        exact ih (d - 1) _ _ _ (by omega) ⟨n + 1, h0, q1_262, q2, g0, r1_280, r2_281, r3_282, r4_283, r5_284, cA_263, cJ_264, cB1_285, cB2_286, cB3_287, cB4_288, cB5_289, fw_250, fh_251, fs_252, fc_253, fl_254, fe_255, fi_256, ft_257, fo_258, fa_259, an_260, af_261, ol_265, gt_266, gw_267, gh_268, gs_269, ge_270, gi_271, gk_272, go_273, ga_274, f1_275, f2_276, f3_277, f4_278, f5_279, by omega, hI, hP, hK, hD, hS, lv_sub hl [0, 3, 4, 5, 6] rfl⟩
                      · exact absurd ((lg_cmp_eq _ _).mpr (e2 c_291)) c_292
                  · exact absurd e1 c_290
                · rcases Classical.em (((xs (nI (6 * n)).toNatClampNeg) &&& 15) = 7) with c_293 | c_293
                  · refine lv_tableIn (off := 495) (tgt := 535) hx hb dL_law_40 (by rw [c_293]; decide) (by rw [c_293]; decide) (by rw [c_293]; rfl) (by decide) ?_
                    refine lv_aload_n hx hb dL_law_535 rfl (lv_at hl 3 rfl) ?_
                    refine lv_aload_n hx hb dL_law_536 rfl (lv_at hl 4 rfl) ?_
                    refine lv_iload hx hb dL_law_537 (lv_at hl 0 rfl) ?_
                    refine lv_iconst (v := 1) hx hb dL_law_539 (by first | rfl | decide) ?_
                    refine lv_iadd hx hb dL_law_540 ?_
                    refine va_sld hx hb hX hbl hbA hS (lw_ix (k := 1) (by decide) (by decide) hL hgo) dL_law_541 ?_
                    refine lv_aload_n hx hb dL_law_542 rfl (lv_at hl 4 rfl) ?_
                    refine lv_iload hx hb dL_law_543 (lv_at hl 0 rfl) ?_
                    refine lv_iconst (v := 2) hx hb dL_law_545 (by first | rfl | decide) ?_
                    refine lv_iadd hx hb dL_law_546 ?_
                    refine va_sld hx hb hX hbl hbA hS (lw_ix (k := 2) (by decide) (by decide) hL hgo) dL_law_547 ?_
                    refine lv_aload_n hx hb dL_law_548 rfl (lv_at hl 1 rfl) ?_
                    have hPc := hP.sub (ws' := [(h0, .inr (0, [.int fw, .int fh, .int fs, .int fc, .int fl, .int fe, .ref q1, .int fi, .int ft, .int fo, .int fa])), (q1, .inl (cA, an, .inl af)), (q2, .inl (cJ, 1, .inr (.inl ol)))]) [0, 1, 2] rfl
                    have hDc := hD.sub (ws' := [(h0, .inr (0, [.int fw, .int fh, .int fs, .int fc, .int fl, .int fe, .ref q1, .int fi, .int ft, .int fo, .int fa])), (q1, .inl (cA, an, .inl af)), (q2, .inl (cJ, 1, .inr (.inl ol)))]) [0, 1, 2] (by decide) rfl
                    have hKc := hK.sub (tys' := [(cA, .int), (cJ, .long)]) [0, 1] rfl
                    have hFc := va_free (wc := [(h0, .inr (0, [.int fw, .int fh, .int fs, .int fc, .int fl, .int fe, .ref q1, .int fi, .int ft, .int fo, .int fa])), (q1, .inl (cA, an, .inl af)), (q2, .inl (cJ, 1, .inr (.inl ol)))]) hD hS hA [0, 1, 2] rfl
                    refine va_calli (vx_runSW (As := [.ref h0, .int (xs ((nI (6 * n)) + 1).toNatClampNeg), .int (xs ((nI (6 * n)) + 2).toNatClampNeg), .ref q2]) (rest := []) ⟨hx, hb, hml, hown, hts⟩ (mtL_tileOf l hl9 dC dI h0 q1 q2 cA cJ fw fh fs fc fl fe fi ft fo fa an af ol H.size (xs ((nI (6 * n)) + 1).toNatClampNeg) (xs ((nI (6 * n)) + 2).toNatClampNeg) ) (vx_cwSW 4 hts (gb_s kw_305 kw_306 kw_21 kw_307) rfl rfl rfl (by decide +kernel) ⟨Nat.le_of_ble_eq_true rfl, Nat.le_of_ble_eq_true rfl⟩) ⟨zz_P.blind, zz_P.at hPc hKc hDc (hZ.kept hS.2.1) hFc⟩ rfl rfl hl.1 rfl (lv_room (Nat.le_of_ble_eq_true rfl)) dL_law_549 ⟨(by show (600 - d) + 1 ≤ 601024; omega), (by show (3200000 - 6144 * d) + 6 ≤ 7293034; omega)⟩) hS (fun q _ h => hFc q h) hFc (fun r u t H1 locs ht hvm hw1 hB hz1 hk1 hS => ?_)
                    obtain ⟨⟨fw_294, fh_295, fs_296, fc_297, fl_298, fe_299, fi_300, ft_301, fo_302, fa_303, an_304, af_305⟩, ol_309⟩ := u
                    obtain ⟨q1_306, cA_307, cJ_308, hP1, hK1, hD1⟩ := hB
                    rw [ht] at hP1
                    have hK1 := va_K.moved hvm.symm hK1
                    obtain ⟨hP, hD⟩ := va_join (wr := [(g0, .inr (1, [.int gt, .int gw, .int gh, .int gs, .int ge, .int gi, .int gk, .ref r1, .ref r2, .ref r3, .ref r4, .ref r5, .int go, .int ga])), (r1, .inl (cB1, 4096, .inl f1)), (r2, .inl (cB2, 4096, .inl f2)), (r3, .inl (cB3, 4096, .inl f3)), (r4, .inl (cB4, 4096, .inl f4)), (r5, .inl (cB5, 4096, .inl f5))]) (w1 := [(h0, .inr (0, [.int fw_294, .int fh_295, .int fs_296, .int fc_297, .int fl_298, .int fe_299, .ref q1_306, .int fi_300, .int ft_301, .int fo_302, .int fa_303])), (q1_306, .inl (cA_307, an_304, .inl af_305)), (q2, .inl (cJ_308, 1, .inr (.inl ol_309)))]) hP hD [0, 1, 2] [3, 4, 5, 6, 7, 8] rfl rfl (by decide) (by decide) hk1 hFc hP1 hD1
                    have hK := (hK.sub (tys' := [(cB1, .int), (cB2, .int), (cB3, .int), (cB4, .int), (cB5, .int)]) [2, 3, 4, 5, 6] rfl).app hK1
                    generalize H1 = H at hP hS ⊢
                    have hP := hP.sub (ws' := [(h0, .inr (0, [.int fw_294, .int fh_295, .int fs_296, .int fc_297, .int fl_298, .int fe_299, .ref q1_306, .int fi_300, .int ft_301, .int fo_302, .int fa_303])), (q1_306, .inl (cA_307, an_304, .inl af_305)), (q2, .inl (cJ_308, 1, .inr (.inl ol_309))), (g0, .inr (1, [.int gt, .int gw, .int gh, .int gs, .int ge, .int gi, .int gk, .ref r1, .ref r2, .ref r3, .ref r4, .ref r5, .int go, .int ga])), (r1, .inl (cB1, 4096, .inl f1)), (r2, .inl (cB2, 4096, .inl f2)), (r3, .inl (cB3, 4096, .inl f3)), (r4, .inl (cB4, 4096, .inl f4)), (r5, .inl (cB5, 4096, .inl f5))]) [6, 7, 8, 0, 1, 2, 3, 4, 5] rfl
                    have hD := hD.sub (ws' := [(h0, .inr (0, [.int fw_294, .int fh_295, .int fs_296, .int fc_297, .int fl_298, .int fe_299, .ref q1_306, .int fi_300, .int ft_301, .int fo_302, .int fa_303])), (q1_306, .inl (cA_307, an_304, .inl af_305)), (q2, .inl (cJ_308, 1, .inr (.inl ol_309))), (g0, .inr (1, [.int gt, .int gw, .int gh, .int gs, .int ge, .int gi, .int gk, .ref r1, .ref r2, .ref r3, .ref r4, .ref r5, .int go, .int ga])), (r1, .inl (cB1, 4096, .inl f1)), (r2, .inl (cB2, 4096, .inl f2)), (r3, .inl (cB3, 4096, .inl f3)), (r4, .inl (cB4, 4096, .inl f4)), (r5, .inl (cB5, 4096, .inl f5))]) [6, 7, 8, 0, 1, 2, 3, 4, 5] (by decide) rfl
                    have hK := hK.sub (tys' := [(cA_307, .int), (cJ_308, .long), (cB1, .int), (cB2, .int), (cB3, .int), (cB4, .int), (cB5, .int)]) [5, 6, 0, 1, 2, 3, 4] rfl
                    refine lv_istore (lv' := [(5, .int r), (4, .int (nI (6 * n))), (3, .ref q2), (2, .ref g0), (1, .ref h0), (0, .ref b)]) hx hb dL_law_552 hl (by decide) rfl (fun ls hl => ?_)
                    refine lv_aload_n hx hb dL_law_554 rfl (lv_at hl 3 rfl) ?_
                    refine lv_aload_n hx hb dL_law_555 rfl (lv_at hl 5 rfl) ?_
                    refine lv_iload hx hb dL_law_556 (lv_at hl 1 rfl) ?_
                    refine lv_iconst (v := 1) hx hb dL_law_558 (by first | rfl | decide) ?_
                    refine lv_iadd hx hb dL_law_559 ?_
                    refine va_sld hx hb hX hbl hbA hS (lw_ix (k := 1) (by decide) (by decide) hL hgo) dL_law_560 ?_
                    refine lv_aload_n hx hb dL_law_561 rfl (lv_at hl 5 rfl) ?_
                    refine lv_iload hx hb dL_law_562 (lv_at hl 1 rfl) ?_
                    refine lv_iconst (v := 2) hx hb dL_law_564 (by first | rfl | decide) ?_
                    refine lv_iadd hx hb dL_law_565 ?_
                    refine va_sld hx hb hX hbl hbA hS (lw_ix (k := 2) (by decide) (by decide) hL hgo) dL_law_566 ?_
                    have hPc := hP.sub (ws' := [(g0, .inr (1, [.int gt, .int gw, .int gh, .int gs, .int ge, .int gi, .int gk, .ref r1, .ref r2, .ref r3, .ref r4, .ref r5, .int go, .int ga])), (r1, .inl (cB1, 4096, .inl f1)), (r2, .inl (cB2, 4096, .inl f2)), (r3, .inl (cB3, 4096, .inl f3)), (r4, .inl (cB4, 4096, .inl f4)), (r5, .inl (cB5, 4096, .inl f5))]) [3, 4, 5, 6, 7, 8] rfl
                    have hDc := hD.sub (ws' := [(g0, .inr (1, [.int gt, .int gw, .int gh, .int gs, .int ge, .int gi, .int gk, .ref r1, .ref r2, .ref r3, .ref r4, .ref r5, .int go, .int ga])), (r1, .inl (cB1, 4096, .inl f1)), (r2, .inl (cB2, 4096, .inl f2)), (r3, .inl (cB3, 4096, .inl f3)), (r4, .inl (cB4, 4096, .inl f4)), (r5, .inl (cB5, 4096, .inl f5))]) [3, 4, 5, 6, 7, 8] (by decide) rfl
                    have hKc := hK.sub (tys' := [(cB1, .int), (cB2, .int), (cB3, .int), (cB4, .int), (cB5, .int)]) [2, 3, 4, 5, 6] rfl
                    have hFc := va_free (wc := [(g0, .inr (1, [.int gt, .int gw, .int gh, .int gs, .int ge, .int gi, .int gk, .ref r1, .ref r2, .ref r3, .ref r4, .ref r5, .int go, .int ga])), (r1, .inl (cB1, 4096, .inl f1)), (r2, .inl (cB2, 4096, .inl f2)), (r3, .inl (cB3, 4096, .inl f3)), (r4, .inl (cB4, 4096, .inl f4)), (r5, .inl (cB5, 4096, .inl f5))]) hD hS hA [3, 4, 5, 6, 7, 8] rfl
                    obtain ⟨t0, ht0⟩ := Inv.at hI (xs ((nI (6 * n)) + 1).toNatClampNeg) (xs ((nI (6 * n)) + 2).toNatClampNeg)
                    refine va_calli (va_runV (As := [.int (xs ((nI (6 * n)) + 1).toNatClampNeg), .int (xs ((nI (6 * n)) + 2).toNatClampNeg)]) (rest := []) ⟨hx, hb, hml, hown, hts⟩ (mtX1_tileOf l dC dI g0 r1 r2 r3 r4 r5 cB1 cB2 cB3 cB4 cB5 gt gw gh gs ge gi gk go ga f1 f2 f3 f4 f5 H.size (xs ((nI (6 * n)) + 1).toNatClampNeg) (xs ((nI (6 * n)) + 2).toNatClampNeg) hs0 hac t0 ht0) (cwV 2 hts (gb_v kw_446 kw_447 kw_448 kw_23 kw_449) rfl rfl rfl (by decide +kernel) ⟨Nat.le_of_ble_eq_true rfl, Nat.le_of_ble_eq_true rfl⟩) ⟨mu_P.blind, va_recv hKc hPc (ci := 1) (q0 := 0) rfl rfl, mu_P.at hPc hKc hDc⟩ rfl rfl hl.1 rfl (lv_room (Nat.le_of_ble_eq_true rfl)) dL_law_567 ⟨(by show ((600 - d) + 1) + 0 ≤ 601024; omega), (by show ((3200000 - 6144 * d) + 6) + 0 ≤ 7293034; omega)⟩) hS (fun q _ h => hFc q h) hFc (fun bb u t H1 locs ht hvm hw2 hB hz1 hk1 hS => ?_)
                    obtain ⟨gt_310, gw_311, gh_312, gs_313, ge_314, gi_315, gk_316, go_317, ga_318, f1_319, f2_320, f3_321, f4_322, f5_323⟩ := u
                    obtain ⟨r1_324, r2_325, r3_326, r4_327, r5_328, cB1_329, cB2_330, cB3_331, cB4_332, cB5_333, hP1, hK1, hD1⟩ := hB
                    rw [ht] at hP1
                    have hK1 := va_K.moved hvm.symm hK1
                    obtain ⟨hP, hD⟩ := va_join (wr := [(h0, .inr (0, [.int fw_294, .int fh_295, .int fs_296, .int fc_297, .int fl_298, .int fe_299, .ref q1_306, .int fi_300, .int ft_301, .int fo_302, .int fa_303])), (q1_306, .inl (cA_307, an_304, .inl af_305)), (q2, .inl (cJ_308, 1, .inr (.inl ol_309)))]) (w1 := [(g0, .inr (1, [.int gt_310, .int gw_311, .int gh_312, .int gs_313, .int ge_314, .int gi_315, .int gk_316, .ref r1_324, .ref r2_325, .ref r3_326, .ref r4_327, .ref r5_328, .int go_317, .int ga_318])), (r1_324, .inl (cB1_329, 4096, .inl f1_319)), (r2_325, .inl (cB2_330, 4096, .inl f2_320)), (r3_326, .inl (cB3_331, 4096, .inl f3_321)), (r4_327, .inl (cB4_332, 4096, .inl f4_322)), (r5_328, .inl (cB5_333, 4096, .inl f5_323))]) hP hD [3, 4, 5, 6, 7, 8] [0, 1, 2] rfl rfl (by decide) (by decide) hk1 hFc hP1 hD1
                    have hK := (hK.sub (tys' := [(cA_307, .int), (cJ_308, .long)]) [0, 1] rfl).app hK1
                    generalize H1 = H at hP hS ⊢
                    have hP := hP.sub (ws' := [(h0, .inr (0, [.int fw_294, .int fh_295, .int fs_296, .int fc_297, .int fl_298, .int fe_299, .ref q1_306, .int fi_300, .int ft_301, .int fo_302, .int fa_303])), (q1_306, .inl (cA_307, an_304, .inl af_305)), (q2, .inl (cJ_308, 1, .inr (.inl ol_309))), (g0, .inr (1, [.int gt_310, .int gw_311, .int gh_312, .int gs_313, .int ge_314, .int gi_315, .int gk_316, .ref r1_324, .ref r2_325, .ref r3_326, .ref r4_327, .ref r5_328, .int go_317, .int ga_318])), (r1_324, .inl (cB1_329, 4096, .inl f1_319)), (r2_325, .inl (cB2_330, 4096, .inl f2_320)), (r3_326, .inl (cB3_331, 4096, .inl f3_321)), (r4_327, .inl (cB4_332, 4096, .inl f4_322)), (r5_328, .inl (cB5_333, 4096, .inl f5_323))]) [0, 1, 2, 3, 4, 5, 6, 7, 8] rfl
                    have hD := hD.sub (ws' := [(h0, .inr (0, [.int fw_294, .int fh_295, .int fs_296, .int fc_297, .int fl_298, .int fe_299, .ref q1_306, .int fi_300, .int ft_301, .int fo_302, .int fa_303])), (q1_306, .inl (cA_307, an_304, .inl af_305)), (q2, .inl (cJ_308, 1, .inr (.inl ol_309))), (g0, .inr (1, [.int gt_310, .int gw_311, .int gh_312, .int gs_313, .int ge_314, .int gi_315, .int gk_316, .ref r1_324, .ref r2_325, .ref r3_326, .ref r4_327, .ref r5_328, .int go_317, .int ga_318])), (r1_324, .inl (cB1_329, 4096, .inl f1_319)), (r2_325, .inl (cB2_330, 4096, .inl f2_320)), (r3_326, .inl (cB3_331, 4096, .inl f3_321)), (r4_327, .inl (cB4_332, 4096, .inl f4_322)), (r5_328, .inl (cB5_333, 4096, .inl f5_323))]) [0, 1, 2, 3, 4, 5, 6, 7, 8] (by decide) rfl
                    have hK := hK.sub (tys' := [(cA_307, .int), (cJ_308, .long), (cB1_329, .int), (cB2_330, .int), (cB3_331, .int), (cB4_332, .int), (cB5_333, .int)]) [0, 1, 2, 3, 4, 5, 6] rfl
                    have hst := st_tileOf hn9 hI t0 hw1 hw2 ht0
                    obtain ⟨e1, e2, hI⟩ := hst
                    refine lv_istore (lv' := [(6, .int bb), (5, .int r), (4, .int (nI (6 * n))), (3, .ref q2), (2, .ref g0), (1, .ref h0), (0, .ref b)]) hx hb dL_law_570 hl (by decide) rfl (fun ls hl => ?_)
                    refine lv_aload_n hx hb dL_law_572 rfl (lv_at hl 4 rfl) ?_
                    refine ro_calli (va_runV (As := []) (rest := []) ⟨hx, hb, hml, hown, hts⟩ (mtX1_thrown l dC dI g0 r1_324 r2_325 r3_326 r4_327 r5_328 cB1_329 cB2_330 cB3_331 cB4_332 cB5_333 gt_310 gw_311 gh_312 gs_313 ge_314 gi_315 gk_316 go_317 ga_318 f1_319 f2_320 f3_321 f4_322 f5_323 H.size) (cwV 0 hts (gb_v kw_370 kw_371 kw_372 kw_23 kw_373) rfl rfl rfl (by decide +kernel) ⟨Nat.le_of_ble_eq_true rfl, Nat.le_of_ble_eq_true rfl⟩) ⟨ro_P.blind, va_recv hK hP (ci := 1) (q0 := 3) rfl rfl, ro_P.at (hP.sub [3, 4, 5, 6, 7, 8] rfl) (hK.sub [2, 3, 4, 5, 6] rfl)⟩ rfl rfl hl.1 rfl (lv_room (Nat.le_of_ble_eq_true rfl)) dL_law_573 ⟨(by show ((600 - d) + 1) + 0 ≤ 601024; omega), (by show ((3200000 - 6144 * d) + 6) + 0 ≤ 7293034; omega)⟩) hP hS hA (fun H locs hP hS hz hk => ?_)
                    refine lv_iload hx hb dL_law_576 (lv_at hl 1 rfl) ?_
                    refine lv_icmp_eq (tgt := 583) hx hb dL_law_578 (by decide) (fun c_334 => ?_) (fun c_334 => ?_)
                    · refine lv_iload hx hb dL_law_583 (lv_at hl 1 rfl) ?_
                      refine lv_if_ne (tgt := 600) hx hb dL_law_585 (by decide) (fun c_335 => ?_) (fun c_335 => ?_)
                      · refine lv_goto (tgt := 659) hx hb dL_law_600 (by decide) ?_
                        refine lv_iinc (v := nI (6 * n) + 6) (lv' := [(4, .int (nI (6 * n) + 6)), (6, .int bb), (5, .int r), (3, .ref q2), (2, .ref g0), (1, .ref h0), (0, .ref b)]) hx hb dL_law_659 hl (k := 2) rfl (by rfl) (by decide) rfl (fun ls hl => ?_)
                        refine lv_goto (tgt := 23) hx hb dL_law_662 (by decide) ?_
                        rw [show nI (6 * n) + 6 = nI (6 * (n + 1)) by rw [lm_6, nI_add]; rfl] at hl
                        refine W.widen (k := 600 - (d - 1)) (n := 3200000 - 6144 * (d - 1)) (by show ((600 - d) + 1) ≤ _; omega) (by show ((3200000 - 6144 * d) + 6) ≤ _; omega) ?_
                        exact ih (d - 1) _ _ _ (by omega) ⟨n + 1, h0, q1_306, q2, g0, r1_324, r2_325, r3_326, r4_327, r5_328, cA_307, cJ_308, cB1_329, cB2_330, cB3_331, cB4_332, cB5_333, fw_294, fh_295, fs_296, fc_297, fl_298, fe_299, fi_300, ft_301, fo_302, fa_303, an_304, af_305, ol_309, gt_310, gw_311, gh_312, gs_313, ge_314, gi_315, gk_316, go_317, ga_318, f1_319, f2_320, f3_321, f4_322, f5_323, by omega, hI, hP, hK, hD, hS, lv_sub hl [0, 3, 4, 5, 6] rfl⟩
                      · refine lv_aload_n hx hb dL_law_588 rfl (lv_at hl 3 rfl) ?_
                        refine lv_iconst (v := 0) hx hb dL_law_589 (by first | rfl | decide) ?_
                        refine va_lald hx hb hK hP 2 1 rfl rfl lm_01 dL_law_590 ?_
                        refine lv_iload hx hb dL_law_591 (lv_at hl 0 rfl) ?_
                        refine lv_i2l (v := bb.toInt64) hx hb dL_law_593 rfl ?_
                        refine W.lcmp hx hb dL_law_594 ?_
                        refine lv_if_eq (tgt := 600) hx hb dL_law_595 (by decide) (fun c_336 => ?_) (fun c_336 => ?_)
                        · refine lv_goto (tgt := 659) hx hb dL_law_600 (by decide) ?_
                          refine lv_iinc (v := nI (6 * n) + 6) (lv' := [(4, .int (nI (6 * n) + 6)), (6, .int bb), (5, .int r), (3, .ref q2), (2, .ref g0), (1, .ref h0), (0, .ref b)]) hx hb dL_law_659 hl (k := 2) rfl (by rfl) (by decide) rfl (fun ls hl => ?_)
                          refine lv_goto (tgt := 23) hx hb dL_law_662 (by decide) ?_
                          rw [show nI (6 * n) + 6 = nI (6 * (n + 1)) by rw [lm_6, nI_add]; rfl] at hl
                          refine W.widen (k := 600 - (d - 1)) (n := 3200000 - 6144 * (d - 1)) (by show ((600 - d) + 1) ≤ _; omega) (by show ((3200000 - 6144 * d) + 6) ≤ _; omega) ?_
                          exact ih (d - 1) _ _ _ (by omega) ⟨n + 1, h0, q1_306, q2, g0, r1_324, r2_325, r3_326, r4_327, r5_328, cA_307, cJ_308, cB1_329, cB2_330, cB3_331, cB4_332, cB5_333, fw_294, fh_295, fs_296, fc_297, fl_298, fe_299, fi_300, ft_301, fo_302, fa_303, an_304, af_305, ol_309, gt_310, gw_311, gh_312, gs_313, ge_314, gi_315, gk_316, go_317, ga_318, f1_319, f2_320, f3_321, f4_322, f5_323, by omega, hI, hP, hK, hD, hS, lv_sub hl [0, 3, 4, 5, 6] rfl⟩
                        · exact absurd ((lg_cmp_eq _ _).mpr (e2 c_335)) c_336
                    · exact absurd e1 c_334
                  · rcases Classical.em (((xs (nI (6 * n)).toNatClampNeg) &&& 15) = 8) with c_337 | c_337
                    · refine lv_tableIn (off := 563) (tgt := 603) hx hb dL_law_40 (by rw [c_337]; decide) (by rw [c_337]; decide) (by rw [c_337]; rfl) (by decide) ?_
                      refine lv_aload_n hx hb dL_law_603 rfl (lv_at hl 3 rfl) ?_
                      refine lv_aload_n hx hb dL_law_604 rfl (lv_at hl 4 rfl) ?_
                      refine lv_iload hx hb dL_law_605 (lv_at hl 0 rfl) ?_
                      refine lv_iconst (v := 1) hx hb dL_law_607 (by first | rfl | decide) ?_
                      refine lv_iadd hx hb dL_law_608 ?_
                      refine va_sld hx hb hX hbl hbA hS (lw_ix (k := 1) (by decide) (by decide) hL hgo) dL_law_609 ?_
                      refine lv_aload_n hx hb dL_law_610 rfl (lv_at hl 1 rfl) ?_
                      have hPc := hP.sub (ws' := [(h0, .inr (0, [.int fw, .int fh, .int fs, .int fc, .int fl, .int fe, .ref q1, .int fi, .int ft, .int fo, .int fa])), (q1, .inl (cA, an, .inl af)), (q2, .inl (cJ, 1, .inr (.inl ol)))]) [0, 1, 2] rfl
                      have hDc := hD.sub (ws' := [(h0, .inr (0, [.int fw, .int fh, .int fs, .int fc, .int fl, .int fe, .ref q1, .int fi, .int ft, .int fo, .int fa])), (q1, .inl (cA, an, .inl af)), (q2, .inl (cJ, 1, .inr (.inl ol)))]) [0, 1, 2] (by decide) rfl
                      have hKc := hK.sub (tys' := [(cA, .int), (cJ, .long)]) [0, 1] rfl
                      have hFc := va_free (wc := [(h0, .inr (0, [.int fw, .int fh, .int fs, .int fc, .int fl, .int fe, .ref q1, .int fi, .int ft, .int fo, .int fa])), (q1, .inl (cA, an, .inl af)), (q2, .inl (cJ, 1, .inr (.inl ol)))]) hD hS hA [0, 1, 2] rfl
                      refine va_calli (vx_runSW (As := [.ref h0, .int (xs ((nI (6 * n)) + 1).toNatClampNeg), .ref q2]) (rest := []) ⟨hx, hb, hml, hown, hts⟩ (mtL_count l hl9 dC dI h0 q1 q2 cA cJ fw fh fs fc fl fe fi ft fo fa an af ol H.size (xs ((nI (6 * n)) + 1).toNatClampNeg) ) (vx_cwSW 3 hts (gb_s kw_313 kw_314 kw_21 kw_315) rfl rfl rfl (by decide +kernel) ⟨Nat.le_of_ble_eq_true rfl, Nat.le_of_ble_eq_true rfl⟩) ⟨zz_P.blind, zz_P.at hPc hKc hDc (hZ.kept hS.2.1) hFc⟩ rfl rfl hl.1 rfl (lv_room (Nat.le_of_ble_eq_true rfl)) dL_law_611 ⟨(by show (600 - d) + 1 ≤ 601024; omega), (by show (3200000 - 6144 * d) + 6 ≤ 7293034; omega)⟩) hS (fun q _ h => hFc q h) hFc (fun r u t H1 locs ht hvm hw1 hB hz1 hk1 hS => ?_)
                      obtain ⟨⟨fw_338, fh_339, fs_340, fc_341, fl_342, fe_343, fi_344, ft_345, fo_346, fa_347, an_348, af_349⟩, ol_353⟩ := u
                      obtain ⟨q1_350, cA_351, cJ_352, hP1, hK1, hD1⟩ := hB
                      rw [ht] at hP1
                      have hK1 := va_K.moved hvm.symm hK1
                      obtain ⟨hP, hD⟩ := va_join (wr := [(g0, .inr (1, [.int gt, .int gw, .int gh, .int gs, .int ge, .int gi, .int gk, .ref r1, .ref r2, .ref r3, .ref r4, .ref r5, .int go, .int ga])), (r1, .inl (cB1, 4096, .inl f1)), (r2, .inl (cB2, 4096, .inl f2)), (r3, .inl (cB3, 4096, .inl f3)), (r4, .inl (cB4, 4096, .inl f4)), (r5, .inl (cB5, 4096, .inl f5))]) (w1 := [(h0, .inr (0, [.int fw_338, .int fh_339, .int fs_340, .int fc_341, .int fl_342, .int fe_343, .ref q1_350, .int fi_344, .int ft_345, .int fo_346, .int fa_347])), (q1_350, .inl (cA_351, an_348, .inl af_349)), (q2, .inl (cJ_352, 1, .inr (.inl ol_353)))]) hP hD [0, 1, 2] [3, 4, 5, 6, 7, 8] rfl rfl (by decide) (by decide) hk1 hFc hP1 hD1
                      have hK := (hK.sub (tys' := [(cB1, .int), (cB2, .int), (cB3, .int), (cB4, .int), (cB5, .int)]) [2, 3, 4, 5, 6] rfl).app hK1
                      generalize H1 = H at hP hS ⊢
                      have hP := hP.sub (ws' := [(h0, .inr (0, [.int fw_338, .int fh_339, .int fs_340, .int fc_341, .int fl_342, .int fe_343, .ref q1_350, .int fi_344, .int ft_345, .int fo_346, .int fa_347])), (q1_350, .inl (cA_351, an_348, .inl af_349)), (q2, .inl (cJ_352, 1, .inr (.inl ol_353))), (g0, .inr (1, [.int gt, .int gw, .int gh, .int gs, .int ge, .int gi, .int gk, .ref r1, .ref r2, .ref r3, .ref r4, .ref r5, .int go, .int ga])), (r1, .inl (cB1, 4096, .inl f1)), (r2, .inl (cB2, 4096, .inl f2)), (r3, .inl (cB3, 4096, .inl f3)), (r4, .inl (cB4, 4096, .inl f4)), (r5, .inl (cB5, 4096, .inl f5))]) [6, 7, 8, 0, 1, 2, 3, 4, 5] rfl
                      have hD := hD.sub (ws' := [(h0, .inr (0, [.int fw_338, .int fh_339, .int fs_340, .int fc_341, .int fl_342, .int fe_343, .ref q1_350, .int fi_344, .int ft_345, .int fo_346, .int fa_347])), (q1_350, .inl (cA_351, an_348, .inl af_349)), (q2, .inl (cJ_352, 1, .inr (.inl ol_353))), (g0, .inr (1, [.int gt, .int gw, .int gh, .int gs, .int ge, .int gi, .int gk, .ref r1, .ref r2, .ref r3, .ref r4, .ref r5, .int go, .int ga])), (r1, .inl (cB1, 4096, .inl f1)), (r2, .inl (cB2, 4096, .inl f2)), (r3, .inl (cB3, 4096, .inl f3)), (r4, .inl (cB4, 4096, .inl f4)), (r5, .inl (cB5, 4096, .inl f5))]) [6, 7, 8, 0, 1, 2, 3, 4, 5] (by decide) rfl
                      have hK := hK.sub (tys' := [(cA_351, .int), (cJ_352, .long), (cB1, .int), (cB2, .int), (cB3, .int), (cB4, .int), (cB5, .int)]) [5, 6, 0, 1, 2, 3, 4] rfl
                      refine lv_istore (lv' := [(5, .int r), (4, .int (nI (6 * n))), (3, .ref q2), (2, .ref g0), (1, .ref h0), (0, .ref b)]) hx hb dL_law_614 hl (by decide) rfl (fun ls hl => ?_)
                      refine lv_aload_n hx hb dL_law_616 rfl (lv_at hl 3 rfl) ?_
                      refine lv_aload_n hx hb dL_law_617 rfl (lv_at hl 5 rfl) ?_
                      refine lv_iload hx hb dL_law_618 (lv_at hl 1 rfl) ?_
                      refine lv_iconst (v := 1) hx hb dL_law_620 (by first | rfl | decide) ?_
                      refine lv_iadd hx hb dL_law_621 ?_
                      refine va_sld hx hb hX hbl hbA hS (lw_ix (k := 1) (by decide) (by decide) hL hgo) dL_law_622 ?_
                      have hPc := hP.sub (ws' := [(g0, .inr (1, [.int gt, .int gw, .int gh, .int gs, .int ge, .int gi, .int gk, .ref r1, .ref r2, .ref r3, .ref r4, .ref r5, .int go, .int ga])), (r1, .inl (cB1, 4096, .inl f1)), (r2, .inl (cB2, 4096, .inl f2)), (r3, .inl (cB3, 4096, .inl f3)), (r4, .inl (cB4, 4096, .inl f4)), (r5, .inl (cB5, 4096, .inl f5))]) [3, 4, 5, 6, 7, 8] rfl
                      have hDc := hD.sub (ws' := [(g0, .inr (1, [.int gt, .int gw, .int gh, .int gs, .int ge, .int gi, .int gk, .ref r1, .ref r2, .ref r3, .ref r4, .ref r5, .int go, .int ga])), (r1, .inl (cB1, 4096, .inl f1)), (r2, .inl (cB2, 4096, .inl f2)), (r3, .inl (cB3, 4096, .inl f3)), (r4, .inl (cB4, 4096, .inl f4)), (r5, .inl (cB5, 4096, .inl f5))]) [3, 4, 5, 6, 7, 8] (by decide) rfl
                      have hKc := hK.sub (tys' := [(cB1, .int), (cB2, .int), (cB3, .int), (cB4, .int), (cB5, .int)]) [2, 3, 4, 5, 6] rfl
                      have hFc := va_free (wc := [(g0, .inr (1, [.int gt, .int gw, .int gh, .int gs, .int ge, .int gi, .int gk, .ref r1, .ref r2, .ref r3, .ref r4, .ref r5, .int go, .int ga])), (r1, .inl (cB1, 4096, .inl f1)), (r2, .inl (cB2, 4096, .inl f2)), (r3, .inl (cB3, 4096, .inl f3)), (r4, .inl (cB4, 4096, .inl f4)), (r5, .inl (cB5, 4096, .inl f5))]) hD hS hA [3, 4, 5, 6, 7, 8] rfl
                      refine va_calli (va_runV (As := [.int (xs ((nI (6 * n)) + 1).toNatClampNeg)]) (rest := []) ⟨hx, hb, hml, hown, hts⟩ (mtX1_count l dC dI g0 r1 r2 r3 r4 r5 cB1 cB2 cB3 cB4 cB5 gt gw gh gs ge gi gk go ga f1 f2 f3 f4 f5 H.size (xs ((nI (6 * n)) + 1).toNatClampNeg) hs0 hac N hN2 hN4 TT hT hT31) (cwV 1 hts (gb_v kw_450 kw_451 kw_452 kw_23 kw_453) rfl rfl rfl (by decide +kernel) ⟨Nat.le_of_ble_eq_true rfl, Nat.le_of_ble_eq_true rfl⟩) ⟨mu_P.blind, va_recv hKc hPc (ci := 1) (q0 := 0) rfl rfl, mu_P.at hPc hKc hDc⟩ rfl rfl hl.1 rfl (lv_room (Nat.le_of_ble_eq_true rfl)) dL_law_623 ⟨(by show ((600 - d) + 1) + 0 ≤ 601024; omega), (by show ((3200000 - 6144 * d) + 6) + 0 ≤ 7293034; omega)⟩) hS (fun q _ h => hFc q h) hFc (fun bb u t H1 locs ht hvm hw2 hB hz1 hk1 hS => ?_)
                      obtain ⟨gt_354, gw_355, gh_356, gs_357, ge_358, gi_359, gk_360, go_361, ga_362, f1_363, f2_364, f3_365, f4_366, f5_367⟩ := u
                      obtain ⟨r1_368, r2_369, r3_370, r4_371, r5_372, cB1_373, cB2_374, cB3_375, cB4_376, cB5_377, hP1, hK1, hD1⟩ := hB
                      rw [ht] at hP1
                      have hK1 := va_K.moved hvm.symm hK1
                      obtain ⟨hP, hD⟩ := va_join (wr := [(h0, .inr (0, [.int fw_338, .int fh_339, .int fs_340, .int fc_341, .int fl_342, .int fe_343, .ref q1_350, .int fi_344, .int ft_345, .int fo_346, .int fa_347])), (q1_350, .inl (cA_351, an_348, .inl af_349)), (q2, .inl (cJ_352, 1, .inr (.inl ol_353)))]) (w1 := [(g0, .inr (1, [.int gt_354, .int gw_355, .int gh_356, .int gs_357, .int ge_358, .int gi_359, .int gk_360, .ref r1_368, .ref r2_369, .ref r3_370, .ref r4_371, .ref r5_372, .int go_361, .int ga_362])), (r1_368, .inl (cB1_373, 4096, .inl f1_363)), (r2_369, .inl (cB2_374, 4096, .inl f2_364)), (r3_370, .inl (cB3_375, 4096, .inl f3_365)), (r4_371, .inl (cB4_376, 4096, .inl f4_366)), (r5_372, .inl (cB5_377, 4096, .inl f5_367))]) hP hD [3, 4, 5, 6, 7, 8] [0, 1, 2] rfl rfl (by decide) (by decide) hk1 hFc hP1 hD1
                      have hK := (hK.sub (tys' := [(cA_351, .int), (cJ_352, .long)]) [0, 1] rfl).app hK1
                      generalize H1 = H at hP hS ⊢
                      have hP := hP.sub (ws' := [(h0, .inr (0, [.int fw_338, .int fh_339, .int fs_340, .int fc_341, .int fl_342, .int fe_343, .ref q1_350, .int fi_344, .int ft_345, .int fo_346, .int fa_347])), (q1_350, .inl (cA_351, an_348, .inl af_349)), (q2, .inl (cJ_352, 1, .inr (.inl ol_353))), (g0, .inr (1, [.int gt_354, .int gw_355, .int gh_356, .int gs_357, .int ge_358, .int gi_359, .int gk_360, .ref r1_368, .ref r2_369, .ref r3_370, .ref r4_371, .ref r5_372, .int go_361, .int ga_362])), (r1_368, .inl (cB1_373, 4096, .inl f1_363)), (r2_369, .inl (cB2_374, 4096, .inl f2_364)), (r3_370, .inl (cB3_375, 4096, .inl f3_365)), (r4_371, .inl (cB4_376, 4096, .inl f4_366)), (r5_372, .inl (cB5_377, 4096, .inl f5_367))]) [0, 1, 2, 3, 4, 5, 6, 7, 8] rfl
                      have hD := hD.sub (ws' := [(h0, .inr (0, [.int fw_338, .int fh_339, .int fs_340, .int fc_341, .int fl_342, .int fe_343, .ref q1_350, .int fi_344, .int ft_345, .int fo_346, .int fa_347])), (q1_350, .inl (cA_351, an_348, .inl af_349)), (q2, .inl (cJ_352, 1, .inr (.inl ol_353))), (g0, .inr (1, [.int gt_354, .int gw_355, .int gh_356, .int gs_357, .int ge_358, .int gi_359, .int gk_360, .ref r1_368, .ref r2_369, .ref r3_370, .ref r4_371, .ref r5_372, .int go_361, .int ga_362])), (r1_368, .inl (cB1_373, 4096, .inl f1_363)), (r2_369, .inl (cB2_374, 4096, .inl f2_364)), (r3_370, .inl (cB3_375, 4096, .inl f3_365)), (r4_371, .inl (cB4_376, 4096, .inl f4_366)), (r5_372, .inl (cB5_377, 4096, .inl f5_367))]) [0, 1, 2, 3, 4, 5, 6, 7, 8] (by decide) rfl
                      have hK := hK.sub (tys' := [(cA_351, .int), (cJ_352, .long), (cB1_373, .int), (cB2_374, .int), (cB3_375, .int), (cB4_376, .int), (cB5_377, .int)]) [0, 1, 2, 3, 4, 5, 6] rfl
                      have hst := st_count hn9 hI hw1 hw2
                      obtain ⟨e1, e2, hI⟩ := hst
                      refine lv_istore (lv' := [(6, .int bb), (5, .int r), (4, .int (nI (6 * n))), (3, .ref q2), (2, .ref g0), (1, .ref h0), (0, .ref b)]) hx hb dL_law_626 hl (by decide) rfl (fun ls hl => ?_)
                      refine lv_aload_n hx hb dL_law_628 rfl (lv_at hl 4 rfl) ?_
                      refine ro_calli (va_runV (As := []) (rest := []) ⟨hx, hb, hml, hown, hts⟩ (mtX1_thrown l dC dI g0 r1_368 r2_369 r3_370 r4_371 r5_372 cB1_373 cB2_374 cB3_375 cB4_376 cB5_377 gt_354 gw_355 gh_356 gs_357 ge_358 gi_359 gk_360 go_361 ga_362 f1_363 f2_364 f3_365 f4_366 f5_367 H.size) (cwV 0 hts (gb_v kw_370 kw_371 kw_372 kw_23 kw_373) rfl rfl rfl (by decide +kernel) ⟨Nat.le_of_ble_eq_true rfl, Nat.le_of_ble_eq_true rfl⟩) ⟨ro_P.blind, va_recv hK hP (ci := 1) (q0 := 3) rfl rfl, ro_P.at (hP.sub [3, 4, 5, 6, 7, 8] rfl) (hK.sub [2, 3, 4, 5, 6] rfl)⟩ rfl rfl hl.1 rfl (lv_room (Nat.le_of_ble_eq_true rfl)) dL_law_629 ⟨(by show ((600 - d) + 1) + 0 ≤ 601024; omega), (by show ((3200000 - 6144 * d) + 6) + 0 ≤ 7293034; omega)⟩) hP hS hA (fun H locs hP hS hz hk => ?_)
                      refine lv_iload hx hb dL_law_632 (lv_at hl 1 rfl) ?_
                      refine lv_icmp_eq (tgt := 639) hx hb dL_law_634 (by decide) (fun c_378 => ?_) (fun c_378 => ?_)
                      · refine lv_iload hx hb dL_law_639 (lv_at hl 1 rfl) ?_
                        refine lv_if_ne (tgt := 656) hx hb dL_law_641 (by decide) (fun c_379 => ?_) (fun c_379 => ?_)
                        · refine lv_goto (tgt := 659) hx hb dL_law_656 (by decide) ?_
                          refine lv_iinc (v := nI (6 * n) + 6) (lv' := [(4, .int (nI (6 * n) + 6)), (6, .int bb), (5, .int r), (3, .ref q2), (2, .ref g0), (1, .ref h0), (0, .ref b)]) hx hb dL_law_659 hl (k := 2) rfl (by rfl) (by decide) rfl (fun ls hl => ?_)
                          refine lv_goto (tgt := 23) hx hb dL_law_662 (by decide) ?_
                          rw [show nI (6 * n) + 6 = nI (6 * (n + 1)) by rw [lm_6, nI_add]; rfl] at hl
                          refine W.widen (k := 600 - (d - 1)) (n := 3200000 - 6144 * (d - 1)) (by show ((600 - d) + 1) ≤ _; omega) (by show ((3200000 - 6144 * d) + 6) ≤ _; omega) ?_
                          exact ih (d - 1) _ _ _ (by omega) ⟨n + 1, h0, q1_350, q2, g0, r1_368, r2_369, r3_370, r4_371, r5_372, cA_351, cJ_352, cB1_373, cB2_374, cB3_375, cB4_376, cB5_377, fw_338, fh_339, fs_340, fc_341, fl_342, fe_343, fi_344, ft_345, fo_346, fa_347, an_348, af_349, ol_353, gt_354, gw_355, gh_356, gs_357, ge_358, gi_359, gk_360, go_361, ga_362, f1_363, f2_364, f3_365, f4_366, f5_367, by omega, hI, hP, hK, hD, hS, lv_sub hl [0, 3, 4, 5, 6] rfl⟩
                        · refine lv_aload_n hx hb dL_law_644 rfl (lv_at hl 3 rfl) ?_
                          refine lv_iconst (v := 0) hx hb dL_law_645 (by first | rfl | decide) ?_
                          refine va_lald hx hb hK hP 2 1 rfl rfl lm_01 dL_law_646 ?_
                          refine lv_iload hx hb dL_law_647 (lv_at hl 0 rfl) ?_
                          refine lv_i2l (v := bb.toInt64) hx hb dL_law_649 rfl ?_
                          refine W.lcmp hx hb dL_law_650 ?_
                          refine lv_if_eq (tgt := 656) hx hb dL_law_651 (by decide) (fun c_380 => ?_) (fun c_380 => ?_)
                          · refine lv_goto (tgt := 659) hx hb dL_law_656 (by decide) ?_
                            refine lv_iinc (v := nI (6 * n) + 6) (lv' := [(4, .int (nI (6 * n) + 6)), (6, .int bb), (5, .int r), (3, .ref q2), (2, .ref g0), (1, .ref h0), (0, .ref b)]) hx hb dL_law_659 hl (k := 2) rfl (by rfl) (by decide) rfl (fun ls hl => ?_)
                            refine lv_goto (tgt := 23) hx hb dL_law_662 (by decide) ?_
                            rw [show nI (6 * n) + 6 = nI (6 * (n + 1)) by rw [lm_6, nI_add]; rfl] at hl
                            refine W.widen (k := 600 - (d - 1)) (n := 3200000 - 6144 * (d - 1)) (by show ((600 - d) + 1) ≤ _; omega) (by show ((3200000 - 6144 * d) + 6) ≤ _; omega) ?_
                            exact ih (d - 1) _ _ _ (by omega) ⟨n + 1, h0, q1_350, q2, g0, r1_368, r2_369, r3_370, r4_371, r5_372, cA_351, cJ_352, cB1_373, cB2_374, cB3_375, cB4_376, cB5_377, fw_338, fh_339, fs_340, fc_341, fl_342, fe_343, fi_344, ft_345, fo_346, fa_347, an_348, af_349, ol_353, gt_354, gw_355, gh_356, gs_357, ge_358, gi_359, gk_360, go_361, ga_362, f1_363, f2_364, f3_365, f4_366, f5_367, by omega, hI, hP, hK, hD, hS, lv_sub hl [0, 3, 4, 5, 6] rfl⟩
                          · exact absurd ((lg_cmp_eq _ _).mpr (e2 c_379)) c_380
                      · exact absurd e1 c_378
                    · refine lv_tableOut (tgt := 659) hx hb dL_law_40 (sw_out9 c_2 c_46 c_90 c_117 c_161 c_205 c_249 c_293 c_337) (by decide) ?_
                      refine lv_iinc (v := nI (6 * n) + 6) (lv' := [(4, .int (nI (6 * n) + 6)), (3, .ref q2), (2, .ref g0), (1, .ref h0), (0, .ref b)]) hx hb dL_law_659 hl (k := 0) rfl (by rfl) (by decide) rfl (fun ls hl => ?_)
                      refine lv_goto (tgt := 23) hx hb dL_law_662 (by decide) ?_
                      rw [show nI (6 * n) + 6 = nI (6 * (n + 1)) by rw [lm_6, nI_add]; rfl] at hl
                      refine W.widen (k := 600 - (d - 1)) (n := 3200000 - 6144 * (d - 1)) (by show (600 - d) ≤ _; omega) (by show (3200000 - 6144 * d) ≤ _; omega) ?_
                      exact ih (d - 1) _ _ _ (by omega) ⟨n + 1, h0, q1, q2, g0, r1, r2, r3, r4, r5, cA, cJ, cB1, cB2, cB3, cB4, cB5, fw, fh, fs, fc, fl, fe, fi, ft, fo, fa, an, af, ol, gt, gw, gh, gs, ge, gi, gk, go, ga, f1, f2, f3, f4, f5, by omega, (st_none hn9 hI), hP, hK, hD, hS, lv_sub hl [0, 1, 2, 3, 4] rfl⟩
