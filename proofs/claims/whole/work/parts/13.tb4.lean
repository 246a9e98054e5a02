theorem lm_rn {fi : Int32} {N an : Nat} (hN : fi = nI N) (hNb : N * 6 ≤ an) (hN5 : N ≤ 511) (han0 : 6 ≤ an) (han : an ≤ 3072) : N * 6 + 5 < tb_rn fi an ∧ tb_rn fi an < 2 ^ 31 := by
  have hc : ((fi + 1) * 6) ≤ nI an ↔ (N + 1) * 6 ≤ an := by rw [hN, nI_1, lm_6, pk_mul, nI_leI (by omega) (by omega)]
  unfold tb_rn
  split
  · rename_i h
    rw [hc] at h
    omega
  · omega
theorem lm_it {fi a1 a2 : Int32} {N an : Nat} (hN : fi = nI N) (hNb : N * 6 ≤ an) (han : an < 2 ^ 31) (c1 : ¬ a1 < 0) (c2 : a1 < fi) (c3 : ¬ a2 < 0) (c4 : a2 < 6) : vp_in ((a1 * 6) + a2) an := by
  obtain ⟨j, hj, rfl⟩ := nI_of c1
  obtain ⟨k, hk, rfl⟩ := nI_of c3
  rw [hN, nI_ltI hj (by omega)] at c2
  rw [lm_6, nI_ltI hk (by omega)] at c4
  rw [lm_6, pk_mul, nI_add]
  exact vp_in_nI (by omega) han
def tb_field (fw fh fs fc fl fe fi ft fo fa : Int32) (an : Nat) (af : Nat → Int32) (a1 a2 a3 a4 : Int32) : Nat × Int32 × TBA := (if (tb_within a1 1 1024) = 0 then (1, 0, (fw, fh, fs, fc, fl, fe, fi, ft, fo, fa, an, af)) else (if (tb_within a2 1 1024) = 0 then (1, 0, (fw, fh, fs, fc, fl, fe, fi, ft, fo, fa, an, af)) else (if (tb_power a3) = (-1) then (1, 0, (fw, fh, fs, fc, fl, fe, fi, ft, fo, fa, an, af)) else (if (tb_within a4 1 8192) = 0 then (1, 0, (fw, fh, fs, fc, fl, fe, fi, ft, fo, fa, an, af)) else (0, tb_tiles (tb_across (tb_power a3) 0 a1) (tb_across (tb_power a3) 0 a2), (a1, a2, (tb_power a3), (tb_across (tb_power a3) 0 a1), (tb_across (tb_power a3) 0 a2), a4, 0, 0, (-1), 0, an, af))))))
set_option maxHeartbeats 4000000 in
set_option maxRecDepth 100000 in
theorem mtX0_field (l : Launch) (hl9 : l.stackTraces = false) (dC : Nat → ClassId) (dI : Nat → Nat → Nat) (h0 q1 : Nat) (cA : ClassId) (fw fh fs fc fl fe fi ft fo fa : Int32) (an : Nat) (af : Nat → Int32) (sz : Nat) (a1 a2 a3 a4 : Int32) : vx_Met l yX0_field wsX0_field ({ frames := 6, cells := 1, slots := 6, locals := 91 }) (va_Pc [.ref h0, .int a1, .int a2, .int a3, .int a4] (zz_P (dC, dI) vwCl [(h0, .inr (0, [.int fw, .int fh, .int fs, .int fc, .int fl, .int fe, .ref q1, .int fi, .int ft, .int fo, .int fa])), (q1, .inl (cA, an, .inl af))] [(cA, .int)] sz)) (va_Qi (fun (r : Int32) (u : TBA) => (0, r, u) = tb_field fw fh fs fc fl fe fi ft fo fa an af a1 a2 a3 a4) (tbAt (dC, dI) (va_A [(h0, .inr (0, [.int fw, .int fh, .int fs, .int fc, .int fl, .int fe, .ref q1, .int fi, .int ft, .int fo, .int fa])), (q1, .inl (cA, an, .inl af))] sz) h0) (va_A [(h0, .inr (0, [.int fw, .int fh, .int fs, .int fc, .int fl, .int fe, .ref q1, .int fi, .int ft, .int fo, .int fa])), (q1, .inl (cA, an, .inl af))] sz)) (vx_X (fun (u : Nat × TBA) => (u.1, (0 : Int32), u.2) = tb_field fw fh fs fc fl fe fi ft fo fa an af a1 a2 a3 a4 ∧ (u.1 = 1)) (fun E u t => E = tb_exa u.1 ∧ tbAt (dC, dI) (va_A [(h0, .inr (0, [.int fw, .int fh, .int fs, .int fc, .int fl, .int fe, .ref q1, .int fi, .int ft, .int fo, .int fa])), (q1, .inl (cA, an, .inl af))] sz) h0 u.2 t) (va_A [(h0, .inr (0, [.int fw, .int fh, .int fs, .int fc, .int fl, .int fe, .ref q1, .int fi, .int ft, .int fo, .int fa])), (q1, .inl (cA, an, .inl af))] sz)) 1 6 (va_A [(h0, .inr (0, [.int fw, .int fh, .int fs, .int fc, .int fl, .int fe, .ref q1, .int fi, .int ft, .int fo, .int fa])), (q1, .inl (cA, an, .inl af))] sz) := by
  refine vx_ofW (cc := cX0_field) (maxL := 6) (ret := (some .int)) (by decide) rfl ?_
  intro p e s m args below meth c s₁ B hml hEx hv
  obtain ⟨rfl, ⟨hsz, hP, hK, hD0⟩, hZ⟩ := hv
  have hx := B.exec
  have hb := B.bytes
  have hr := B.returns
  have hts : ∀ w ∈ gb, w.before _ s = true := fun w h => atoms_spec (ws := wsX0_field) B.pre w (List.mem_cons_of_mem _ h)
  have hown : s.vm.findClass "TileBins" = some m.cls := findClass_of_methodNamed B.named
  have hlocks := B.notSynchronized
  subst hsz
  have hD := hD0.self (sz := s.heap.size)
  generalize hAe : va_A [(h0, .inr (0, [.int fw, .int fh, .int fs, .int fc, .int fl, .int fe, .ref q1, .int fi, .int ft, .int fo, .int fa])), (q1, .inl (cA, an, .inl af))] s.heap.size = A at hD hZ ⊢
  have hA : ∀ q : Nat, s.heap.size ≤ q → A q := fun q h => by rw [← hAe]; exact Or.inr h
  have hS : va_S A s.heap s.heap [] := va_S.rf
  have hP : va_P (dC, dI) vwCl [(h0, .inr (0, [.int fw, .int fh, .int fs, .int fc, .int fl, .int fe, .ref q1, .int fi, .int ft, .int fo, .int fa])), (q1, .inl (cA, an, .inl af))] s.heap := hP
  have hl := lv_entry ([.ref h0, .int a1, .int a2, .int a3, .int a4]) (n := 6) (Nat.le_of_ble_eq_true rfl)
  rw [lg_entry_eq]
  generalize (lg_sl ([.ref h0, .int a1, .int a2, .int a3, .int a4]) ++ List.replicate (6 - (lg_sl ([.ref h0, .int a1, .int a2, .int a3, .int a4])).length) Slot.unset).toArray = ls at hl ⊢
  have hl : lv_has ls 6 [(0, .ref h0), (1, .int a1), (2, .int a2), (3, .int a3), (4, .int a4)] := hl
  refine lv_iload_n hx hb dX0_field_0 rfl (lv_at hl 1 rfl) ?_
  refine lv_iconst (v := 1) hx hb dX0_field_1 (by first | rfl | decide) ?_
  refine lv_sipush (v := 1024) hx hb dX0_field_2 (by first | rfl | decide) ?_
  refine ro_calli (va_runS (As := [.int a1, .int 1, .int 1024]) (rest := []) ⟨hx, hb, hml, hown, hts⟩ (mtX0_isWithin l dC dI  s.heap.size a1 1 1024) (va_cwS 3 hts (gb_s kw_100 kw_101 kw_22 kw_102) rfl rfl rfl (by decide +kernel) ⟨Nat.le_of_ble_eq_true rfl, Nat.le_of_ble_eq_true rfl⟩) ⟨ro_P.blind, ro_P.at (hP.sub [] rfl) (hK.sub [] rfl)⟩ rfl rfl hl.1 rfl (lv_room (Nat.le_of_ble_eq_true rfl)) dX0_field_5 ⟨Nat.le_of_ble_eq_true rfl, Nat.le_of_ble_eq_true rfl⟩) hP hS hA (fun H locs hP hS hz hk => ?_)
  refine lv_if_eq (tgt := 22) hx hb dX0_field_8 (by decide) (fun c_1 => ?_) (fun c_1 => ?_)
  · obtain ⟨sa_2, hsa_3⟩ := hZ.str (23, "a field is 1 to 1024 places wide and high") (by decide +kernel)
    exact vx_throwS (rest := []) (mc := 1) (ms := 6) hx hb hl9 (own := "TileBins") (cls := "java/lang/IllegalArgumentException") (text := "a field is 1 to 1024 places wide and high") (names := ["java/lang/RuntimeException", "java/lang/Exception"]) hown (by decide +kernel) (by decide +kernel) (hts _ kw_103) (hts _ kw_27) hsa_3 (vx_hat (fun w hw => hts w (hx_Aa w hw)) hx_Ab hZ.bad) hx_Ac hZ.u hZ.n hS (hl.1.trans hml.symm) dX0_field_22 dX0_field_25 dX0_field_26 dX0_field_28 dX0_field_31 (fun x hx => (hEx x hx).elim) (Nat.le_of_ble_eq_true rfl) (Nat.le_of_ble_eq_true rfl) (Nat.le_of_ble_eq_true rfl) (Nat.le_of_ble_eq_true rfl) hlocks (fun t ha hz hk => ⟨(1, (fw, fh, fs, fc, fl, fe, fi, ft, fo, fa, an, af)), ⟨(show ((1 : Nat), (0 : Int32), ((fw, fh, fs, fc, fl, fe, fi, ft, fo, fa, an, af) : TBA)) = tb_field fw fh fs fc fl fe fi ft fo fa an af a1 a2 a3 a4 by unfold tb_field; rw [if_pos c_1]), rfl⟩, ⟨rfl, q1, cA, ro_kept hP hk, va_K.moved ha hK, hD⟩, th_F hS hz hk⟩) hS.2.2 (Nat.le_of_ble_eq_true rfl) (Nat.le_of_ble_eq_true rfl)
  · refine lv_iload_n hx hb dX0_field_11 rfl (lv_at hl 2 rfl) ?_
    refine lv_iconst (v := 1) hx hb dX0_field_12 (by first | rfl | decide) ?_
    refine lv_sipush (v := 1024) hx hb dX0_field_13 (by first | rfl | decide) ?_
    refine ro_calli (va_runS (As := [.int a2, .int 1, .int 1024]) (rest := []) ⟨hx, hb, hml, hown, hts⟩ (mtX0_isWithin l dC dI  H.size a2 1 1024) (va_cwS 3 hts (gb_s kw_100 kw_101 kw_22 kw_102) rfl rfl rfl (by decide +kernel) ⟨Nat.le_of_ble_eq_true rfl, Nat.le_of_ble_eq_true rfl⟩) ⟨ro_P.blind, ro_P.at (hP.sub [] rfl) (hK.sub [] rfl)⟩ rfl rfl hl.1 rfl (lv_room (Nat.le_of_ble_eq_true rfl)) dX0_field_16 ⟨Nat.le_of_ble_eq_true rfl, Nat.le_of_ble_eq_true rfl⟩) hP hS hA (fun H locs hP hS hz hk => ?_)
    refine lv_if_ne (tgt := 32) hx hb dX0_field_19 (by decide) (fun c_4 => ?_) (fun c_4 => ?_)
    · refine lv_iload_n hx hb dX0_field_32 rfl (lv_at hl 3 rfl) ?_
      refine ro_calli (va_runS (As := [.int a3]) (rest := []) ⟨hx, hb, hml, hown, hts⟩ (mtX0_powerOf l dC dI  H.size a3) (va_cwS 1 hts (gb_s kw_171 kw_172 kw_22 kw_173) rfl rfl rfl (by decide +kernel) ⟨Nat.le_of_ble_eq_true rfl, Nat.le_of_ble_eq_true rfl⟩) ⟨ro_P.blind, ro_P.at (hP.sub [] rfl) (hK.sub [] rfl)⟩ rfl rfl hl.1 rfl (lv_room (Nat.le_of_ble_eq_true rfl)) dX0_field_33 ⟨Nat.le_of_ble_eq_true rfl, Nat.le_of_ble_eq_true rfl⟩) hP hS hA (fun H locs hP hS hz hk => ?_)
      refine lv_istore (lv' := [(5, .int (tb_power a3)), (0, .ref h0), (1, .int a1), (2, .int a2), (3, .int a3), (4, .int a4)]) hx hb dX0_field_36 hl (by decide) rfl (fun ls hl => ?_)
      refine lv_iload hx hb dX0_field_38 (lv_at hl 0 rfl) ?_
      refine lv_iconst (v := (-1)) hx hb dX0_field_40 (by first | rfl | decide) ?_
      refine lv_icmp_ne (tgt := 54) hx hb dX0_field_41 (by decide) (fun c_5 => ?_) (fun c_5 => ?_)
      · refine lv_iload hx hb dX0_field_54 (lv_at hl 5 rfl) ?_
        refine lv_iconst (v := 1) hx hb dX0_field_56 (by first | rfl | decide) ?_
        refine lv_sipush (v := 8192) hx hb dX0_field_57 (by first | rfl | decide) ?_
        refine ro_calli (va_runS (As := [.int a4, .int 1, .int 8192]) (rest := []) ⟨hx, hb, hml, hown, hts⟩ (mtX0_isWithin l dC dI  H.size a4 1 8192) (va_cwS 3 hts (gb_s kw_100 kw_101 kw_22 kw_102) rfl rfl rfl (by decide +kernel) ⟨Nat.le_of_ble_eq_true rfl, Nat.le_of_ble_eq_true rfl⟩) ⟨ro_P.blind, ro_P.at (hP.sub [] rfl) (hK.sub [] rfl)⟩ rfl rfl hl.1 rfl (lv_room (Nat.le_of_ble_eq_true rfl)) dX0_field_60 ⟨Nat.le_of_ble_eq_true rfl, Nat.le_of_ble_eq_true rfl⟩) hP hS hA (fun H locs hP hS hz hk => ?_)
        refine lv_if_ne (tgt := 76) hx hb dX0_field_63 (by decide) (fun c_6 => ?_) (fun c_6 => ?_)
        · refine lv_aload_n hx hb dX0_field_76 rfl (lv_at hl 1 rfl) ?_
          refine lv_iload_n hx hb dX0_field_77 rfl (lv_at hl 2 rfl) ?_
          refine lv_iload_n hx hb dX0_field_78 rfl (lv_at hl 3 rfl) ?_
          refine lv_iload hx hb dX0_field_79 (lv_at hl 0 rfl) ?_
          refine lv_iload hx hb dX0_field_81 (lv_at hl 5 rfl) ?_
          have hPc := hP.sub (ws' := [(h0, .inr (0, [.int fw, .int fh, .int fs, .int fc, .int fl, .int fe, .ref q1, .int fi, .int ft, .int fo, .int fa])), (q1, .inl (cA, an, .inl af))]) [0, 1] rfl
          have hDc := hD.sub (ws' := [(h0, .inr (0, [.int fw, .int fh, .int fs, .int fc, .int fl, .int fe, .ref q1, .int fi, .int ft, .int fo, .int fa])), (q1, .inl (cA, an, .inl af))]) [0, 1] (by decide) rfl
          have hKc := hK.sub (tys' := [(cA, .int)]) [0] rfl
          have hFc := va_free (wc := [(h0, .inr (0, [.int fw, .int fh, .int fs, .int fc, .int fl, .int fe, .ref q1, .int fi, .int ft, .int fo, .int fa])), (q1, .inl (cA, an, .inl af))]) hD hS hA [0, 1] rfl
          refine va_callv (va_runV (As := [.int a1, .int a2, .int (tb_power a3), .int a4]) (rest := []) ⟨hx, hb, hml, hown, hts⟩ (mtX0_layOut l dC dI h0 q1 cA fw fh fs fc fl fe fi ft fo fa an af H.size a1 a2 (tb_power a3) a4) (cwV 4 hts (gb_v kw_41 kw_43 kw_0 kw_22 kw_44) rfl rfl rfl (by decide +kernel) ⟨Nat.le_of_ble_eq_true rfl, Nat.le_of_ble_eq_true rfl⟩) ⟨mu_P.blind, va_recv hKc hPc (ci := 0) (q0 := 0) rfl rfl, mu_P.at hPc hKc hDc⟩ rfl rfl hl.1 rfl (lv_room (Nat.le_of_ble_eq_true rfl)) dX0_field_83 ⟨Nat.le_of_ble_eq_true rfl, Nat.le_of_ble_eq_true rfl⟩) hS (fun q _ h => hFc q h) hFc (fun u t H1 locs ht hvm hw hB hz1 hk1 hS => ?_)
          have hw : u = tb_lay an af a1 a2 (tb_power a3) a4 := hw
          subst hw
          obtain ⟨q1_7, cA_8, hP1, hK1, hD1⟩ := hB
          rw [ht] at hP1
          have hK1 := va_K.moved hvm.symm hK1
          obtain ⟨hP, hD⟩ := va_join (wr := []) (w1 := [(h0, .inr (0, [.int a1, .int a2, .int (tb_power a3), .int (tb_across (tb_power a3) 0 a1), .int (tb_across (tb_power a3) 0 a2), .int a4, .ref q1_7, .int 0, .int 0, .int (-1), .int 0])), (q1_7, .inl (cA_8, an, .inl af))]) hP hD [0, 1] [] rfl rfl (by decide) (by decide) hk1 hFc hP1 hD1
          have hK := (hK.sub (tys' := []) [] rfl).app hK1
          generalize H1 = H at hP hS ⊢
          have hP : va_P (dC, dI) vwCl [(h0, .inr (0, [.int a1, .int a2, .int (tb_power a3), .int (tb_across (tb_power a3) 0 a1), .int (tb_across (tb_power a3) 0 a2), .int a4, .ref q1_7, .int 0, .int 0, .int (-1), .int 0])), (q1_7, .inl (cA_8, an, .inl af))] H := hP
          have hD : va_D A [(h0, .inr (0, [.int a1, .int a2, .int (tb_power a3), .int (tb_across (tb_power a3) 0 a1), .int (tb_across (tb_power a3) 0 a2), .int a4, .ref q1_7, .int 0, .int 0, .int (-1), .int 0])), (q1_7, .inl (cA_8, an, .inl af))] := hD
          have hK : va_K (dC, dI) vwCl [(cA_8, .int)] s := hK
          refine lv_aload_n hx hb dX0_field_86 rfl (lv_at hl 1 rfl) ?_
          refine ro_calli (va_runV (As := []) (rest := []) ⟨hx, hb, hml, hown, hts⟩ (mtX0_tilesInAll l dC dI h0 q1_7 cA_8 a1 a2 (tb_power a3) (tb_across (tb_power a3) 0 a1) (tb_across (tb_power a3) 0 a2) a4 0 0 (-1) 0 an af H.size ) (cwV 0 hts (gb_v kw_176 kw_178 kw_4 kw_22 kw_179) rfl rfl rfl (by decide +kernel) ⟨Nat.le_of_ble_eq_true rfl, Nat.le_of_ble_eq_true rfl⟩) ⟨ro_P.blind, va_recv hK hP (ci := 0) (q0 := 0) rfl rfl, ro_P.at hP hK⟩ rfl rfl hl.1 rfl (lv_room (Nat.le_of_ble_eq_true rfl)) dX0_field_87 ⟨Nat.le_of_ble_eq_true rfl, Nat.le_of_ble_eq_true rfl⟩) hP hS hA (fun H locs hP hS hz hk => ?_)
          refine W.widen (k := 1) (n := 6) (Nat.le_of_ble_eq_true rfl) (Nat.le_of_ble_eq_true rfl) ?_
          refine vx_ret ?_
          exact W.iret (v := tb_tiles (tb_across (tb_power a3) 0 a1) (tb_across (tb_power a3) 0 a2)) hx hb hr (fun t ht hW => ⟨⟨_, (a1, a2, (tb_power a3), (tb_across (tb_power a3) 0 a1), (tb_across (tb_power a3) 0 a2), a4, 0, 0, (-1), 0, an, af), rfl, (show ((0, (tb_tiles (tb_across (tb_power a3) 0 a1) (tb_across (tb_power a3) 0 a2) : Int32), (a1, a2, (tb_power a3), (tb_across (tb_power a3) 0 a1), (tb_across (tb_power a3) 0 a2), a4, 0, 0, (-1), 0, an, af)) : Nat × Int32 × TBA) = tb_field fw fh fs fc fl fe fi ft fo fa an af a1 a2 a3 a4 by unfold tb_field; rw [if_neg c_1, if_neg c_4, if_neg c_5, if_neg c_6]), q1_7, cA_8, by rw [ht]; exact hP, va_K.moved hW.alike hK, hD⟩, hS.F ht⟩) hS.2.2 dX0_field_90
        · obtain ⟨sa_9, hsa_10⟩ := hZ.str (34, "a store has 1 to 8192 cells") (by decide +kernel)
          exact vx_throwS (rest := []) (mc := 1) (ms := 6) hx hb hl9 (own := "TileBins") (cls := "java/lang/IllegalArgumentException") (text := "a store has 1 to 8192 cells") (names := ["java/lang/RuntimeException", "java/lang/Exception"]) hown (by decide +kernel) (by decide +kernel) (hts _ kw_103) (hts _ kw_27) hsa_10 (vx_hat (fun w hw => hts w (hx_Aa w hw)) hx_Ab hZ.bad) hx_Ac hZ.u hZ.n hS (hl.1.trans hml.symm) dX0_field_66 dX0_field_69 dX0_field_70 dX0_field_72 dX0_field_75 (fun x hx => (hEx x hx).elim) (Nat.le_of_ble_eq_true rfl) (Nat.le_of_ble_eq_true rfl) (Nat.le_of_ble_eq_true rfl) (Nat.le_of_ble_eq_true rfl) hlocks (fun t ha hz hk => ⟨(1, (fw, fh, fs, fc, fl, fe, fi, ft, fo, fa, an, af)), ⟨(show ((1 : Nat), (0 : Int32), ((fw, fh, fs, fc, fl, fe, fi, ft, fo, fa, an, af) : TBA)) = tb_field fw fh fs fc fl fe fi ft fo fa an af a1 a2 a3 a4 by unfold tb_field; rw [if_neg c_1, if_neg c_4, if_neg c_5, if_pos c_6]), rfl⟩, ⟨rfl, q1, cA, ro_kept hP hk, va_K.moved ha hK, hD⟩, th_F hS hz hk⟩) hS.2.2 (Nat.le_of_ble_eq_true rfl) (Nat.le_of_ble_eq_true rfl)
      · obtain ⟨sa_11, hsa_12⟩ := hZ.str (32, "a side is 8, 16, 32 or 64") (by decide +kernel)
        exact vx_throwS (rest := []) (mc := 1) (ms := 6) hx hb hl9 (own := "TileBins") (cls := "java/lang/IllegalArgumentException") (text := "a side is 8, 16, 32 or 64") (names := ["java/lang/RuntimeException", "java/lang/Exception"]) hown (by decide +kernel) (by decide +kernel) (hts _ kw_103) (hts _ kw_27) hsa_12 (vx_hat (fun w hw => hts w (hx_Aa w hw)) hx_Ab hZ.bad) hx_Ac hZ.u hZ.n hS (hl.1.trans hml.symm) dX0_field_44 dX0_field_47 dX0_field_48 dX0_field_50 dX0_field_53 (fun x hx => (hEx x hx).elim) (Nat.le_of_ble_eq_true rfl) (Nat.le_of_ble_eq_true rfl) (Nat.le_of_ble_eq_true rfl) (Nat.le_of_ble_eq_true rfl) hlocks (fun t ha hz hk => ⟨(1, (fw, fh, fs, fc, fl, fe, fi, ft, fo, fa, an, af)), ⟨(show ((1 : Nat), (0 : Int32), ((fw, fh, fs, fc, fl, fe, fi, ft, fo, fa, an, af) : TBA)) = tb_field fw fh fs fc fl fe fi ft fo fa an af a1 a2 a3 a4 by unfold tb_field; rw [if_neg c_1, if_neg c_4, if_pos c_5]), rfl⟩, ⟨rfl, q1, cA, ro_kept hP hk, va_K.moved ha hK, hD⟩, th_F hS hz hk⟩) hS.2.2 (Nat.le_of_ble_eq_true rfl) (Nat.le_of_ble_eq_true rfl)
    · obtain ⟨sa_13, hsa_14⟩ := hZ.str (23, "a field is 1 to 1024 places wide and high") (by decide +kernel)
      exact vx_throwS (rest := []) (mc := 1) (ms := 6) hx hb hl9 (own := "TileBins") (cls := "java/lang/IllegalArgumentException") (text := "a field is 1 to 1024 places wide and high") (names := ["java/lang/RuntimeException", "java/lang/Exception"]) hown (by decide +kernel) (by decide +kernel) (hts _ kw_103) (hts _ kw_27) hsa_14 (vx_hat (fun w hw => hts w (hx_Aa w hw)) hx_Ab hZ.bad) hx_Ac hZ.u hZ.n hS (hl.1.trans hml.symm) dX0_field_22 dX0_field_25 dX0_field_26 dX0_field_28 dX0_field_31 (fun x hx => (hEx x hx).elim) (Nat.le_of_ble_eq_true rfl) (Nat.le_of_ble_eq_true rfl) (Nat.le_of_ble_eq_true rfl) (Nat.le_of_ble_eq_true rfl) hlocks (fun t ha hz hk => ⟨(1, (fw, fh, fs, fc, fl, fe, fi, ft, fo, fa, an, af)), ⟨(show ((1 : Nat), (0 : Int32), ((fw, fh, fs, fc, fl, fe, fi, ft, fo, fa, an, af) : TBA)) = tb_field fw fh fs fc fl fe fi ft fo fa an af a1 a2 a3 a4 by unfold tb_field; rw [if_neg c_1, if_pos c_4]), rfl⟩, ⟨rfl, q1, cA, ro_kept hP hk, va_K.moved ha hK, hD⟩, th_F hS hz hk⟩) hS.2.2 (Nat.le_of_ble_eq_true rfl) (Nat.le_of_ble_eq_true rfl)
def tb_put (fw fh fs fc fl fe fi ft fo fa : Int32) (an : Nat) (af : Nat → Int32) (a1 a2 a3 a4 a5 : Int32) : Nat × Int32 × TBA := (if (if fw < a3 then fw else a3) ≤ (if a1 < 0 then 0 else a1) then (if 4096 ≤ fi then (1, 0, (fw, fh, fs, fc, fl, fe, fi, ft, fo, fa, an, af)) else (if (0 : Int32) ≤ (fe - ft) then (0, (fi + 1) - 1, (fw, fh, fs, fc, fl, fe, fi + 1, ft + 0, fo, fa, tb_rn fi an, upd (upd (upd (upd (upd (upd (tb_rf fi an af) ((fi * 6) + 0).toNatClampNeg 0) ((fi * 6) + 1).toNatClampNeg 0) ((fi * 6) + 2).toNatClampNeg 0) ((fi * 6) + 3).toNatClampNeg 0) ((fi * 6) + 4).toNatClampNeg a5) ((fi * 6) + 5).toNatClampNeg 0)) else (1, 0, (fw, fh, fs, fc, fl, fe, fi, ft, fo, fa, an, af)))) else (if (if fh < a4 then fh else a4) ≤ (if a2 < 0 then 0 else a2) then (if 4096 ≤ fi then (1, 0, (fw, fh, fs, fc, fl, fe, fi, ft, fo, fa, an, af)) else (if (0 : Int32) ≤ (fe - ft) then (0, (fi + 1) - 1, (fw, fh, fs, fc, fl, fe, fi + 1, ft + 0, fo, fa, tb_rn fi an, upd (upd (upd (upd (upd (upd (tb_rf fi an af) ((fi * 6) + 0).toNatClampNeg 0) ((fi * 6) + 1).toNatClampNeg 0) ((fi * 6) + 2).toNatClampNeg 0) ((fi * 6) + 3).toNatClampNeg 0) ((fi * 6) + 4).toNatClampNeg a5) ((fi * 6) + 5).toNatClampNeg 0)) else (1, 0, (fw, fh, fs, fc, fl, fe, fi, ft, fo, fa, an, af)))) else (if 4096 ≤ fi then (1, 0, (fw, fh, fs, fc, fl, fe, fi, ft, fo, fa, an, af)) else (if ((tb_across fs (if a1 < 0 then 0 else a1) (if fw < a3 then fw else a3)) * (tb_across fs (if a2 < 0 then 0 else a2) (if fh < a4 then fh else a4))) ≤ (fe - ft) then (0, (fi + 1) - 1, (fw, fh, fs, fc, fl, fe, fi + 1, ft + ((tb_across fs (if a1 < 0 then 0 else a1) (if fw < a3 then fw else a3)) * (tb_across fs (if a2 < 0 then 0 else a2) (if fh < a4 then fh else a4))), fo, fa, tb_rn fi an, upd (upd (upd (upd (upd (upd (tb_rf fi an af) ((fi * 6) + 0).toNatClampNeg (if a1 < 0 then 0 else a1)) ((fi * 6) + 1).toNatClampNeg (if a2 < 0 then 0 else a2)) ((fi * 6) + 2).toNatClampNeg (if fw < a3 then fw else a3)) ((fi * 6) + 3).toNatClampNeg (if fh < a4 then fh else a4)) ((fi * 6) + 4).toNatClampNeg a5) ((fi * 6) + 5).toNatClampNeg ((tb_across fs (if a1 < 0 then 0 else a1) (if fw < a3 then fw else a3)) * (tb_across fs (if a2 < 0 then 0 else a2) (if fh < a4 then fh else a4))))) else (1, 0, (fw, fh, fs, fc, fl, fe, fi, ft, fo, fa, an, af))))))
set_option maxHeartbeats 4000000 in
set_option maxRecDepth 100000 in
theorem mtX0_put (l : Launch) (hl9 : l.stackTraces = false) (dC : Nat → ClassId) (dI : Nat → Nat → Nat) (h0 q1 : Nat) (cA : ClassId) (fw fh fs fc fl fe fi ft fo fa : Int32) (an : Nat) (af : Nat → Int32) (sz : Nat) (a1 a2 a3 a4 a5 : Int32) (N : Nat) (hN : fi = nI N) (hNb : N * 6 ≤ an) (hN5 : N ≤ 511) (han0 : 6 ≤ an) (han : an ≤ 3072) : vx_Met l yX0_put wsX0_put ({ frames := 6, cells := 1, slots := 6144, locals := 91 }) (va_Pc [.ref h0, .int a1, .int a2, .int a3, .int a4, .int a5] (zz_P (dC, dI) vwCl [(h0, .inr (0, [.int fw, .int fh, .int fs, .int fc, .int fl, .int fe, .ref q1, .int fi, .int ft, .int fo, .int fa])), (q1, .inl (cA, an, .inl af))] [(cA, .int)] sz)) (va_Qi (fun (r : Int32) (u : TBA) => (0, r, u) = tb_put fw fh fs fc fl fe fi ft fo fa an af a1 a2 a3 a4 a5) (tbAt (dC, dI) (va_A [(h0, .inr (0, [.int fw, .int fh, .int fs, .int fc, .int fl, .int fe, .ref q1, .int fi, .int ft, .int fo, .int fa])), (q1, .inl (cA, an, .inl af))] sz) h0) (va_A [(h0, .inr (0, [.int fw, .int fh, .int fs, .int fc, .int fl, .int fe, .ref q1, .int fi, .int ft, .int fo, .int fa])), (q1, .inl (cA, an, .inl af))] sz)) (vx_X (fun (u : Nat × TBA) => (u.1, (0 : Int32), u.2) = tb_put fw fh fs fc fl fe fi ft fo fa an af a1 a2 a3 a4 a5 ∧ (u.1 = 1)) (fun E u t => E = tb_exs u.1 ∧ tbAt (dC, dI) (va_A [(h0, .inr (0, [.int fw, .int fh, .int fs, .int fc, .int fl, .int fe, .ref q1, .int fi, .int ft, .int fo, .int fa])), (q1, .inl (cA, an, .inl af))] sz) h0 u.2 t) (va_A [(h0, .inr (0, [.int fw, .int fh, .int fs, .int fc, .int fl, .int fe, .ref q1, .int fi, .int ft, .int fo, .int fa])), (q1, .inl (cA, an, .inl af))] sz)) 1 6144 (va_A [(h0, .inr (0, [.int fw, .int fh, .int fs, .int fc, .int fl, .int fe, .ref q1, .int fi, .int ft, .int fo, .int fa])), (q1, .inl (cA, an, .inl af))] sz) := by
  refine vx_ofW (cc := cX0_put) (maxL := 13) (ret := (some .int)) (by decide) rfl ?_
  intro p e s m args below meth c s₁ B hml hEx hv
  obtain ⟨rfl, ⟨hsz, hP, hK, hD0⟩, hZ⟩ := hv
  have hx := B.exec
  have hb := B.bytes
  have hr := B.returns
  have hts : ∀ w ∈ gb, w.before _ s = true := fun w h => atoms_spec (ws := wsX0_put) B.pre w (List.mem_cons_of_mem _ h)
  have hown : s.vm.findClass "TileBins" = some m.cls := findClass_of_methodNamed B.named
  have hlocks := B.notSynchronized
  subst hsz
  have hD := hD0.self (sz := s.heap.size)
  generalize hAe : va_A [(h0, .inr (0, [.int fw, .int fh, .int fs, .int fc, .int fl, .int fe, .ref q1, .int fi, .int ft, .int fo, .int fa])), (q1, .inl (cA, an, .inl af))] s.heap.size = A at hD hZ ⊢
  have hA : ∀ q : Nat, s.heap.size ≤ q → A q := fun q h => by rw [← hAe]; exact Or.inr h
  have hS : va_S A s.heap s.heap [] := va_S.rf
  have hP : va_P (dC, dI) vwCl [(h0, .inr (0, [.int fw, .int fh, .int fs, .int fc, .int fl, .int fe, .ref q1, .int fi, .int ft, .int fo, .int fa])), (q1, .inl (cA, an, .inl af))] s.heap := hP
  have hl := lv_entry ([.ref h0, .int a1, .int a2, .int a3, .int a4, .int a5]) (n := 13) (Nat.le_of_ble_eq_true rfl)
  rw [lg_entry_eq]
  generalize (lg_sl ([.ref h0, .int a1, .int a2, .int a3, .int a4, .int a5]) ++ List.replicate (13 - (lg_sl ([.ref h0, .int a1, .int a2, .int a3, .int a4, .int a5])).length) Slot.unset).toArray = ls at hl ⊢
  have hl : lv_has ls 13 [(0, .ref h0), (1, .int a1), (2, .int a2), (3, .int a3), (4, .int a4), (5, .int a5)] := hl
  refine lv_iload_n hx hb dX0_put_0 rfl (lv_at hl 1 rfl) ?_
  refine lv_iconst (v := 0) hx hb dX0_put_1 (by first | rfl | decide) ?_
  refine va_mmax hx hb (hml.trans hl.1.symm) hown (hts _ kw_188) (hts _ kw_189) (hts _ kw_28) (hts _ kw_mmax) (Nat.le_of_ble_eq_true rfl) (Nat.le_of_ble_eq_true rfl) (Nat.le_of_ble_eq_true rfl) (Nat.le_of_ble_eq_true rfl) dX0_put_2 ?_
  refine lv_istore (lv' := [(6, .int (if a1 < 0 then 0 else a1)), (0, .ref h0), (1, .int a1), (2, .int a2), (3, .int a3), (4, .int a4), (5, .int a5)]) hx hb dX0_put_5 hl (by decide) rfl (fun ls hl => ?_)
  refine lv_iload_n hx hb dX0_put_7 rfl (lv_at hl 3 rfl) ?_
  refine lv_iconst (v := 0) hx hb dX0_put_8 (by first | rfl | decide) ?_
  refine va_mmax hx hb (hml.trans hl.1.symm) hown (hts _ kw_188) (hts _ kw_189) (hts _ kw_28) (hts _ kw_mmax) (Nat.le_of_ble_eq_true rfl) (Nat.le_of_ble_eq_true rfl) (Nat.le_of_ble_eq_true rfl) (Nat.le_of_ble_eq_true rfl) dX0_put_9 ?_
  refine lv_istore (lv' := [(7, .int (if a2 < 0 then 0 else a2)), (6, .int (if a1 < 0 then 0 else a1)), (0, .ref h0), (1, .int a1), (2, .int a2), (3, .int a3), (4, .int a4), (5, .int a5)]) hx hb dX0_put_12 hl (by decide) rfl (fun ls hl => ?_)
  refine lv_iload_n hx hb dX0_put_14 rfl (lv_at hl 5 rfl) ?_
  refine lv_aload_n hx hb dX0_put_15 rfl (lv_at hl 2 rfl) ?_
  refine va_get (D := (dC, dI)) (ci := 0) (v := .int fw) (C := "TileBins") (T := TX0) (N := 11) hx hb hts inX0 hown hK hP 0 rfl rfl 0 (by decide) (hts _ kw_53) (fun _ h9 => h9) rfl dX0_put_16 ?_
  refine va_mmin hx hb (hml.trans hl.1.symm) hown (hts _ kw_191) (hts _ kw_192) (hts _ kw_28) (hts _ kw_mmin) (Nat.le_of_ble_eq_true rfl) (Nat.le_of_ble_eq_true rfl) (Nat.le_of_ble_eq_true rfl) (Nat.le_of_ble_eq_true rfl) dX0_put_19 ?_
  refine lv_istore (lv' := [(8, .int (if fw < a3 then fw else a3)), (7, .int (if a2 < 0 then 0 else a2)), (6, .int (if a1 < 0 then 0 else a1)), (0, .ref h0), (1, .int a1), (2, .int a2), (3, .int a3), (4, .int a4), (5, .int a5)]) hx hb dX0_put_22 hl (by decide) rfl (fun ls hl => ?_)
  refine lv_iload hx hb dX0_put_24 (lv_at hl 7 rfl) ?_
  refine lv_aload_n hx hb dX0_put_26 rfl (lv_at hl 3 rfl) ?_
  refine va_get (D := (dC, dI)) (ci := 0) (v := .int fh) (C := "TileBins") (T := TX0) (N := 11) hx hb hts inX0 hown hK hP 0 rfl rfl 1 (by decide) (hts _ kw_54) (fun _ h9 => h9) rfl dX0_put_27 ?_
  refine va_mmin hx hb (hml.trans hl.1.symm) hown (hts _ kw_191) (hts _ kw_192) (hts _ kw_28) (hts _ kw_mmin) (Nat.le_of_ble_eq_true rfl) (Nat.le_of_ble_eq_true rfl) (Nat.le_of_ble_eq_true rfl) (Nat.le_of_ble_eq_true rfl) dX0_put_30 ?_
  refine lv_istore (lv' := [(9, .int (if fh < a4 then fh else a4)), (8, .int (if fw < a3 then fw else a3)), (7, .int (if a2 < 0 then 0 else a2)), (6, .int (if a1 < 0 then 0 else a1)), (0, .ref h0), (1, .int a1), (2, .int a2), (3, .int a3), (4, .int a4), (5, .int a5)]) hx hb dX0_put_33 hl (by decide) rfl (fun ls hl => ?_)
  refine lv_iload hx hb dX0_put_35 (lv_at hl 3 rfl) ?_
  refine lv_iload hx hb dX0_put_37 (lv_at hl 1 rfl) ?_
  refine lv_icmp_ge (tgt := 53) hx hb dX0_put_39 (by decide) (fun c_1 => ?_) (fun c_1 => ?_)
  · refine lv_iconst (v := 0) hx hb dX0_put_53 (by first | rfl | decide) ?_
    refine lv_istore (lv' := [(10, .int 0), (9, .int (if fh < a4 then fh else a4)), (8, .int (if fw < a3 then fw else a3)), (7, .int (if a2 < 0 then 0 else a2)), (6, .int (if a1 < 0 then 0 else a1)), (0, .ref h0), (1, .int a1), (2, .int a2), (3, .int a3), (4, .int a4), (5, .int a5)]) hx hb dX0_put_54 hl (by decide) rfl (fun ls hl => ?_)
    refine lv_iload hx hb dX0_put_56 (lv_at hl 0 rfl) ?_
    refine lv_if_eq (tgt := 81) hx hb dX0_put_58 (by decide) (fun _ => ?_) (fun c_2 => absurd (by decide) c_2)
    refine lv_iconst (v := 0) hx hb dX0_put_81 (by first | rfl | decide) ?_
    refine lv_istore (lv' := [(11, .int 0), (10, .int 0), (9, .int (if fh < a4 then fh else a4)), (8, .int (if fw < a3 then fw else a3)), (7, .int (if a2 < 0 then 0 else a2)), (6, .int (if a1 < 0 then 0 else a1)), (0, .ref h0), (1, .int a1), (2, .int a2), (3, .int a3), (4, .int a4), (5, .int a5)]) hx hb dX0_put_82 hl (by decide) rfl (fun ls hl => ?_)
    refine lv_aload_n hx hb dX0_put_84 rfl (lv_at hl 6 rfl) ?_
    refine va_get (D := (dC, dI)) (ci := 0) (v := .int fi) (C := "TileBins") (T := TX0) (N := 11) hx hb hts inX0 hown hK hP 0 rfl rfl 7 (by decide) (hts _ kw_60) (fun _ h9 => h9) rfl dX0_put_85 ?_
    refine lv_sipush (v := 4096) hx hb dX0_put_88 (by first | rfl | decide) ?_
    refine lv_icmp_ge (tgt := 108) hx hb dX0_put_91 (by decide) (fun c_3 => ?_) (fun c_3 => ?_)
    · obtain ⟨sa_4, hsa_5⟩ := hZ.str (70, "the field is full") (by decide +kernel)
      exact vx_throwS (rest := []) (mc := 1) (ms := 6144) hx hb hl9 (own := "TileBins") (cls := "java/lang/IllegalStateException") (text := "the field is full") (names := ["java/lang/RuntimeException", "java/lang/Exception"]) hown (by decide +kernel) (by decide +kernel) (hts _ kw_194) (hts _ kw_29) hsa_5 (vx_hat (fun w hw => hts w (hx_Sa w hw)) hx_Sb hZ.bad) hx_Sc hZ.u hZ.n hS (hl.1.trans hml.symm) dX0_put_108 dX0_put_111 dX0_put_112 dX0_put_114 dX0_put_117 (fun x hx => (hEx x hx).elim) (Nat.le_of_ble_eq_true rfl) (Nat.le_of_ble_eq_true rfl) (Nat.le_of_ble_eq_true rfl) (Nat.le_of_ble_eq_true rfl) hlocks (fun t ha hz hk => ⟨(1, (fw, fh, fs, fc, fl, fe, fi, ft, fo, fa, an, af)), ⟨(show ((1 : Nat), (0 : Int32), ((fw, fh, fs, fc, fl, fe, fi, ft, fo, fa, an, af) : TBA)) = tb_put fw fh fs fc fl fe fi ft fo fa an af a1 a2 a3 a4 a5 by unfold tb_put; rw [if_pos c_1, if_pos c_3]), rfl⟩, ⟨rfl, q1, cA, ro_kept hP hk, va_K.moved ha hK, hD⟩, th_F hS hz hk⟩) hS.2.2 (Nat.le_of_ble_eq_true rfl) (Nat.le_of_ble_eq_true rfl)
    · refine lv_iload hx hb dX0_put_94 (lv_at hl 0 rfl) ?_
      refine lv_aload_n hx hb dX0_put_96 rfl (lv_at hl 6 rfl) ?_
      refine va_get (D := (dC, dI)) (ci := 0) (v := .int fe) (C := "TileBins") (T := TX0) (N := 11) hx hb hts inX0 hown hK hP 0 rfl rfl 5 (by decide) (hts _ kw_58) (fun _ h9 => h9) rfl dX0_put_97 ?_
      refine lv_aload_n hx hb dX0_put_100 rfl (lv_at hl 6 rfl) ?_
      refine va_get (D := (dC, dI)) (ci := 0) (v := .int ft) (C := "TileBins") (T := TX0) (N := 11) hx hb hts inX0 hown hK hP 0 rfl rfl 8 (by decide) (hts _ kw_61) (fun _ h9 => h9) rfl dX0_put_101 ?_
      refine lv_isub hx hb dX0_put_104 ?_
      refine lv_icmp_le (tgt := 118) hx hb dX0_put_105 (by decide) (fun c_6 => ?_) (fun c_6 => ?_)
      · refine lv_aload_n hx hb dX0_put_118 rfl (lv_at hl 6 rfl) ?_
        have hPc := hP.sub (ws' := [(h0, .inr (0, [.int fw, .int fh, .int fs, .int fc, .int fl, .int fe, .ref q1, .int fi, .int ft, .int fo, .int fa])), (q1, .inl (cA, an, .inl af))]) [0, 1] rfl
        have hDc := hD.sub (ws' := [(h0, .inr (0, [.int fw, .int fh, .int fs, .int fc, .int fl, .int fe, .ref q1, .int fi, .int ft, .int fo, .int fa])), (q1, .inl (cA, an, .inl af))]) [0, 1] (by decide) rfl
        have hKc := hK.sub (tys' := [(cA, .int)]) [0] rfl
        have hFc := va_free (wc := [(h0, .inr (0, [.int fw, .int fh, .int fs, .int fc, .int fl, .int fe, .ref q1, .int fi, .int ft, .int fo, .int fa])), (q1, .inl (cA, an, .inl af))]) hD hS hA [0, 1] rfl
        refine va_callv (va_runV (As := []) (rest := []) ⟨hx, hb, hml, hown, hts⟩ (mtX0_makeRoom l dC dI h0 q1 cA fw fh fs fc fl fe fi ft fo fa an af s.heap.size  (by omega) (fun _ => by omega)) (cwV 0 hts (gb_v kw_210 kw_212 kw_5 kw_22 kw_213) rfl rfl rfl (by decide +kernel) ⟨Nat.le_of_ble_eq_true rfl, Nat.le_of_ble_eq_true rfl⟩) ⟨mu_P.blind, va_recv hKc hPc (ci := 0) (q0 := 0) rfl rfl, mu_P.at hPc hKc hDc⟩ rfl rfl hl.1 rfl (lv_room (Nat.le_of_ble_eq_true rfl)) dX0_put_119 ⟨Nat.le_of_ble_eq_true rfl, Nat.le_of_ble_eq_true rfl⟩) hS (fun q _ h => hFc q h) hFc (fun u t H1 locs ht hvm hw hB hz1 hk1 hS => ?_)
        have hw : u = tb_room fw fh fs fc fl fe fi ft fo fa an af := hw
        subst hw
        obtain ⟨q1_7, cA_8, hP1, hK1, hD1⟩ := hB
        rw [ht] at hP1
        have hK1 := va_K.moved hvm.symm hK1
        obtain ⟨hP, hD⟩ := va_join (wr := []) (w1 := [(h0, .inr (0, [.int fw, .int fh, .int fs, .int fc, .int fl, .int fe, .ref q1_7, .int fi, .int ft, .int fo, .int fa])), (q1_7, .inl (cA_8, tb_rn fi an, .inl (tb_rf fi an af)))]) hP hD [0, 1] [] rfl rfl (by decide) (by decide) hk1 hFc hP1 hD1
        have hK := (hK.sub (tys' := []) [] rfl).app hK1
        generalize H1 = H at hP hS ⊢
        have hP : va_P (dC, dI) vwCl [(h0, .inr (0, [.int fw, .int fh, .int fs, .int fc, .int fl, .int fe, .ref q1_7, .int fi, .int ft, .int fo, .int fa])), (q1_7, .inl (cA_8, tb_rn fi an, .inl (tb_rf fi an af)))] H := hP
        have hD : va_D A [(h0, .inr (0, [.int fw, .int fh, .int fs, .int fc, .int fl, .int fe, .ref q1_7, .int fi, .int ft, .int fo, .int fa])), (q1_7, .inl (cA_8, tb_rn fi an, .inl (tb_rf fi an af)))] := hD
        have hK : va_K (dC, dI) vwCl [(cA_8, .int)] s := hK
        refine lv_aload_n hx hb dX0_put_122 rfl (lv_at hl 6 rfl) ?_
        refine va_get (D := (dC, dI)) (ci := 0) (v := .int fi) (C := "TileBins") (T := TX0) (N := 11) hx hb hts inX0 hown hK hP 0 rfl rfl 7 (by decide) (hts _ kw_60) (fun _ h9 => h9) rfl dX0_put_123 ?_
        refine lv_bipush (v := 6) hx hb dX0_put_126 (by first | rfl | decide) ?_
        refine lv_imul hx hb dX0_put_128 ?_
        refine lv_istore (lv' := [(12, .int (fi * 6)), (11, .int 0), (10, .int 0), (9, .int (if fh < a4 then fh else a4)), (8, .int (if fw < a3 then fw else a3)), (7, .int (if a2 < 0 then 0 else a2)), (6, .int (if a1 < 0 then 0 else a1)), (0, .ref h0), (1, .int a1), (2, .int a2), (3, .int a3), (4, .int a4), (5, .int a5)]) hx hb dX0_put_129 hl (by decide) rfl (fun ls hl => ?_)
        refine lv_aload_n hx hb dX0_put_131 rfl (lv_at hl 7 rfl) ?_
        refine va_get (D := (dC, dI)) (ci := 0) (v := .ref q1_7) (C := "TileBins") (T := TX0) (N := 11) hx hb hts inX0 hown hK hP 0 rfl rfl 6 (by decide) (hts _ kw_59) (fun _ h9 => h9) rfl dX0_put_132 ?_
        refine lv_iload hx hb dX0_put_135 (lv_at hl 0 rfl) ?_
        refine lv_iconst (v := 0) hx hb dX0_put_137 (by first | rfl | decide) ?_
        refine lv_iadd hx hb dX0_put_138 ?_
        refine lv_iload hx hb dX0_put_139 (lv_at hl 2 rfl) ?_
        refine lv_if_eq (tgt := 149) hx hb dX0_put_141 (by decide) (fun _ => ?_) (fun c_9 => absurd (by decide) c_9)
        refine lv_iconst (v := 0) hx hb dX0_put_149 (by first | rfl | decide) ?_
        refine va_iast hx hb hK hP hD hS 1 0 rfl rfl (lm_ix (k := 0) hN (by decide) (by decide) (lm_rn hN hNb hN5 han0 han).1 (lm_rn hN hNb hN5 han0 han).2) dX0_put_150 (fun H locs hP hD hS => ?_)
        have hP : va_P (dC, dI) vwCl [(h0, .inr (0, [.int fw, .int fh, .int fs, .int fc, .int fl, .int fe, .ref q1_7, .int fi, .int ft, .int fo, .int fa])), (q1_7, .inl (cA_8, tb_rn fi an, .inl (upd (tb_rf fi an af) ((fi * 6) + 0).toNatClampNeg 0)))] H := hP
        have hD : va_D A [(h0, .inr (0, [.int fw, .int fh, .int fs, .int fc, .int fl, .int fe, .ref q1_7, .int fi, .int ft, .int fo, .int fa])), (q1_7, .inl (cA_8, tb_rn fi an, .inl (upd (tb_rf fi an af) ((fi * 6) + 0).toNatClampNeg 0)))] := hD
        refine lv_aload_n hx hb dX0_put_151 rfl (lv_at hl 7 rfl) ?_
        refine va_get (D := (dC, dI)) (ci := 0) (v := .ref q1_7) (C := "TileBins") (T := TX0) (N := 11) hx hb hts inX0 hown hK hP 0 rfl rfl 6 (by decide) (hts _ kw_59) (fun _ h9 => h9) rfl dX0_put_152 ?_
        refine lv_iload hx hb dX0_put_155 (lv_at hl 0 rfl) ?_
        refine lv_iconst (v := 1) hx hb dX0_put_157 (by first | rfl | decide) ?_
        refine lv_iadd hx hb dX0_put_158 ?_
        refine lv_iload hx hb dX0_put_159 (lv_at hl 2 rfl) ?_
        refine lv_if_eq (tgt := 169) hx hb dX0_put_161 (by decide) (fun _ => ?_) (fun c_10 => absurd (by decide) c_10)
        refine lv_iconst (v := 0) hx hb dX0_put_169 (by first | rfl | decide) ?_
        refine va_iast hx hb hK hP hD hS 1 0 rfl rfl (lm_ix (k := 1) hN (by decide) (by decide) (lm_rn hN hNb hN5 han0 han).1 (lm_rn hN hNb hN5 han0 han).2) dX0_put_170 (fun H locs hP hD hS => ?_)
        have hP : va_P (dC, dI) vwCl [(h0, .inr (0, [.int fw, .int fh, .int fs, .int fc, .int fl, .int fe, .ref q1_7, .int fi, .int ft, .int fo, .int fa])), (q1_7, .inl (cA_8, tb_rn fi an, .inl (upd (upd (tb_rf fi an af) ((fi * 6) + 0).toNatClampNeg 0) ((fi * 6) + 1).toNatClampNeg 0)))] H := hP
        have hD : va_D A [(h0, .inr (0, [.int fw, .int fh, .int fs, .int fc, .int fl, .int fe, .ref q1_7, .int fi, .int ft, .int fo, .int fa])), (q1_7, .inl (cA_8, tb_rn fi an, .inl (upd (upd (tb_rf fi an af) ((fi * 6) + 0).toNatClampNeg 0) ((fi * 6) + 1).toNatClampNeg 0)))] := hD
        refine lv_aload_n hx hb dX0_put_171 rfl (lv_at hl 7 rfl) ?_
        refine va_get (D := (dC, dI)) (ci := 0) (v := .ref q1_7) (C := "TileBins") (T := TX0) (N := 11) hx hb hts inX0 hown hK hP 0 rfl rfl 6 (by decide) (hts _ kw_59) (fun _ h9 => h9) rfl dX0_put_172 ?_
        refine lv_iload hx hb dX0_put_175 (lv_at hl 0 rfl) ?_
        refine lv_iconst (v := 2) hx hb dX0_put_177 (by first | rfl | decide) ?_
        refine lv_iadd hx hb dX0_put_178 ?_
        refine lv_iload hx hb dX0_put_179 (lv_at hl 2 rfl) ?_
        refine lv_if_eq (tgt := 189) hx hb dX0_put_181 (by decide) (fun _ => ?_) (fun c_11 => absurd (by decide) c_11)
        refine lv_iconst (v := 0) hx hb dX0_put_189 (by first | rfl | decide) ?_
        refine va_iast hx hb hK hP hD hS 1 0 rfl rfl (lm_ix (k := 2) hN (by decide) (by decide) (lm_rn hN hNb hN5 han0 han).1 (lm_rn hN hNb hN5 han0 han).2) dX0_put_190 (fun H locs hP hD hS => ?_)
        have hP : va_P (dC, dI) vwCl [(h0, .inr (0, [.int fw, .int fh, .int fs, .int fc, .int fl, .int fe, .ref q1_7, .int fi, .int ft, .int fo, .int fa])), (q1_7, .inl (cA_8, tb_rn fi an, .inl (upd (upd (upd (tb_rf fi an af) ((fi * 6) + 0).toNatClampNeg 0) ((fi * 6) + 1).toNatClampNeg 0) ((fi * 6) + 2).toNatClampNeg 0)))] H := hP
        have hD : va_D A [(h0, .inr (0, [.int fw, .int fh, .int fs, .int fc, .int fl, .int fe, .ref q1_7, .int fi, .int ft, .int fo, .int fa])), (q1_7, .inl (cA_8, tb_rn fi an, .inl (upd (upd (upd (tb_rf fi an af) ((fi * 6) + 0).toNatClampNeg 0) ((fi * 6) + 1).toNatClampNeg 0) ((fi * 6) + 2).toNatClampNeg 0)))] := hD
        refine lv_aload_n hx hb dX0_put_191 rfl (lv_at hl 7 rfl) ?_
        refine va_get (D := (dC, dI)) (ci := 0) (v := .ref q1_7) (C := "TileBins") (T := TX0) (N := 11) hx hb hts inX0 hown hK hP 0 rfl rfl 6 (by decide) (hts _ kw_59) (fun _ h9 => h9) rfl dX0_put_192 ?_
        refine lv_iload hx hb dX0_put_195 (lv_at hl 0 rfl) ?_
        refine lv_iconst (v := 3) hx hb dX0_put_197 (by first | rfl | decide) ?_
        refine lv_iadd hx hb dX0_put_198 ?_
        refine lv_iload hx hb dX0_put_199 (lv_at hl 2 rfl) ?_
        refine lv_if_eq (tgt := 209) hx hb dX0_put_201 (by decide) (fun _ => ?_) (fun c_12 => absurd (by decide) c_12)
        refine lv_iconst (v := 0) hx hb dX0_put_209 (by first | rfl | decide) ?_
        refine va_iast hx hb hK hP hD hS 1 0 rfl rfl (lm_ix (k := 3) hN (by decide) (by decide) (lm_rn hN hNb hN5 han0 han).1 (lm_rn hN hNb hN5 han0 han).2) dX0_put_210 (fun H locs hP hD hS => ?_)
        have hP : va_P (dC, dI) vwCl [(h0, .inr (0, [.int fw, .int fh, .int fs, .int fc, .int fl, .int fe, .ref q1_7, .int fi, .int ft, .int fo, .int fa])), (q1_7, .inl (cA_8, tb_rn fi an, .inl (upd (upd (upd (upd (tb_rf fi an af) ((fi * 6) + 0).toNatClampNeg 0) ((fi * 6) + 1).toNatClampNeg 0) ((fi * 6) + 2).toNatClampNeg 0) ((fi * 6) + 3).toNatClampNeg 0)))] H := hP
        have hD : va_D A [(h0, .inr (0, [.int fw, .int fh, .int fs, .int fc, .int fl, .int fe, .ref q1_7, .int fi, .int ft, .int fo, .int fa])), (q1_7, .inl (cA_8, tb_rn fi an, .inl (upd (upd (upd (upd (tb_rf fi an af) ((fi * 6) + 0).toNatClampNeg 0) ((fi * 6) + 1).toNatClampNeg 0) ((fi * 6) + 2).toNatClampNeg 0) ((fi * 6) + 3).toNatClampNeg 0)))] := hD
        refine lv_aload_n hx hb dX0_put_211 rfl (lv_at hl 7 rfl) ?_
        refine va_get (D := (dC, dI)) (ci := 0) (v := .ref q1_7) (C := "TileBins") (T := TX0) (N := 11) hx hb hts inX0 hown hK hP 0 rfl rfl 6 (by decide) (hts _ kw_59) (fun _ h9 => h9) rfl dX0_put_212 ?_
        refine lv_iload hx hb dX0_put_215 (lv_at hl 0 rfl) ?_
        refine lv_iconst (v := 4) hx hb dX0_put_217 (by first | rfl | decide) ?_
        refine lv_iadd hx hb dX0_put_218 ?_
        refine lv_iload hx hb dX0_put_219 (lv_at hl 12 rfl) ?_
        refine va_iast hx hb hK hP hD hS 1 0 rfl rfl (lm_ix (k := 4) hN (by decide) (by decide) (lm_rn hN hNb hN5 han0 han).1 (lm_rn hN hNb hN5 han0 han).2) dX0_put_221 (fun H locs hP hD hS => ?_)
        have hP : va_P (dC, dI) vwCl [(h0, .inr (0, [.int fw, .int fh, .int fs, .int fc, .int fl, .int fe, .ref q1_7, .int fi, .int ft, .int fo, .int fa])), (q1_7, .inl (cA_8, tb_rn fi an, .inl (upd (upd (upd (upd (upd (tb_rf fi an af) ((fi * 6) + 0).toNatClampNeg 0) ((fi * 6) + 1).toNatClampNeg 0) ((fi * 6) + 2).toNatClampNeg 0) ((fi * 6) + 3).toNatClampNeg 0) ((fi * 6) + 4).toNatClampNeg a5)))] H := hP
        have hD : va_D A [(h0, .inr (0, [.int fw, .int fh, .int fs, .int fc, .int fl, .int fe, .ref q1_7, .int fi, .int ft, .int fo, .int fa])), (q1_7, .inl (cA_8, tb_rn fi an, .inl (upd (upd (upd (upd (upd (tb_rf fi an af) ((fi * 6) + 0).toNatClampNeg 0) ((fi * 6) + 1).toNatClampNeg 0) ((fi * 6) + 2).toNatClampNeg 0) ((fi * 6) + 3).toNatClampNeg 0) ((fi * 6) + 4).toNatClampNeg a5)))] := hD
        refine lv_aload_n hx hb dX0_put_222 rfl (lv_at hl 7 rfl) ?_
        refine va_get (D := (dC, dI)) (ci := 0) (v := .ref q1_7) (C := "TileBins") (T := TX0) (N := 11) hx hb hts inX0 hown hK hP 0 rfl rfl 6 (by decide) (hts _ kw_59) (fun _ h9 => h9) rfl dX0_put_223 ?_
        refine lv_iload hx hb dX0_put_226 (lv_at hl 0 rfl) ?_
        refine lv_iconst (v := 5) hx hb dX0_put_228 (by first | rfl | decide) ?_
        refine lv_iadd hx hb dX0_put_229 ?_
        refine lv_iload hx hb dX0_put_230 (lv_at hl 1 rfl) ?_
        refine va_iast hx hb hK hP hD hS 1 0 rfl rfl (lm_ix (k := 5) hN (by decide) (by decide) (lm_rn hN hNb hN5 han0 han).1 (lm_rn hN hNb hN5 han0 han).2) dX0_put_232 (fun H locs hP hD hS => ?_)
        have hP : va_P (dC, dI) vwCl [(h0, .inr (0, [.int fw, .int fh, .int fs, .int fc, .int fl, .int fe, .ref q1_7, .int fi, .int ft, .int fo, .int fa])), (q1_7, .inl (cA_8, tb_rn fi an, .inl (upd (upd (upd (upd (upd (upd (tb_rf fi an af) ((fi * 6) + 0).toNatClampNeg 0) ((fi * 6) + 1).toNatClampNeg 0) ((fi * 6) + 2).toNatClampNeg 0) ((fi * 6) + 3).toNatClampNeg 0) ((fi * 6) + 4).toNatClampNeg a5) ((fi * 6) + 5).toNatClampNeg 0)))] H := hP
        have hD : va_D A [(h0, .inr (0, [.int fw, .int fh, .int fs, .int fc, .int fl, .int fe, .ref q1_7, .int fi, .int ft, .int fo, .int fa])), (q1_7, .inl (cA_8, tb_rn fi an, .inl (upd (upd (upd (upd (upd (upd (tb_rf fi an af) ((fi * 6) + 0).toNatClampNeg 0) ((fi * 6) + 1).toNatClampNeg 0) ((fi * 6) + 2).toNatClampNeg 0) ((fi * 6) + 3).toNatClampNeg 0) ((fi * 6) + 4).toNatClampNeg a5) ((fi * 6) + 5).toNatClampNeg 0)))] := hD
        refine lv_aload_n hx hb dX0_put_233 rfl (lv_at hl 7 rfl) ?_
        refine lv_dup hx hb dX0_put_234 rfl ?_
        refine va_get (D := (dC, dI)) (ci := 0) (v := .int fi) (C := "TileBins") (T := TX0) (N := 11) hx hb hts inX0 hown hK hP 0 rfl rfl 7 (by decide) (hts _ kw_60) (fun _ h9 => h9) rfl dX0_put_235 ?_
        refine lv_iconst (v := 1) hx hb dX0_put_238 (by first | rfl | decide) ?_
        refine lv_iadd hx hb dX0_put_239 ?_
        refine va_put (D := (dC, dI)) (ci := 0) (v := .int (fi + 1)) (ty := .int) (C := "TileBins") (T := TX0) (N := 11) hx hb hts inX0 tyX0 tyX0_ok nmX0 hown hK hP hD hS 0 rfl rfl 7 (by decide) (hts _ kw_60) (fun _ h9 => h9) rfl (by decide +kernel) rfl rfl (Nat.le_of_ble_eq_true rfl) dX0_put_240 (fun H locs hP hD hS => ?_)
        have hP : va_P (dC, dI) vwCl [(h0, .inr (0, [.int fw, .int fh, .int fs, .int fc, .int fl, .int fe, .ref q1_7, .int (fi + 1), .int ft, .int fo, .int fa])), (q1_7, .inl (cA_8, tb_rn fi an, .inl (upd (upd (upd (upd (upd (upd (tb_rf fi an af) ((fi * 6) + 0).toNatClampNeg 0) ((fi * 6) + 1).toNatClampNeg 0) ((fi * 6) + 2).toNatClampNeg 0) ((fi * 6) + 3).toNatClampNeg 0) ((fi * 6) + 4).toNatClampNeg a5) ((fi * 6) + 5).toNatClampNeg 0)))] H := hP
        have hD : va_D A [(h0, .inr (0, [.int fw, .int fh, .int fs, .int fc, .int fl, .int fe, .ref q1_7, .int (fi + 1), .int ft, .int fo, .int fa])), (q1_7, .inl (cA_8, tb_rn fi an, .inl (upd (upd (upd (upd (upd (upd (tb_rf fi an af) ((fi * 6) + 0).toNatClampNeg 0) ((fi * 6) + 1).toNatClampNeg 0) ((fi * 6) + 2).toNatClampNeg 0) ((fi * 6) + 3).toNatClampNeg 0) ((fi * 6) + 4).toNatClampNeg a5) ((fi * 6) + 5).toNatClampNeg 0)))] := hD
        refine lv_aload_n hx hb dX0_put_243 rfl (lv_at hl 7 rfl) ?_
        refine lv_dup hx hb dX0_put_244 rfl ?_
        refine va_get (D := (dC, dI)) (ci := 0) (v := .int ft) (C := "TileBins") (T := TX0) (N := 11) hx hb hts inX0 hown hK hP 0 rfl rfl 8 (by decide) (hts _ kw_61) (fun _ h9 => h9) rfl dX0_put_245 ?_
        refine lv_iload hx hb dX0_put_248 (lv_at hl 1 rfl) ?_
        refine lv_iadd hx hb dX0_put_250 ?_
        refine va_put (D := (dC, dI)) (ci := 0) (v := .int (ft + 0)) (ty := .int) (C := "TileBins") (T := TX0) (N := 11) hx hb hts inX0 tyX0 tyX0_ok nmX0 hown hK hP hD hS 0 rfl rfl 8 (by decide) (hts _ kw_61) (fun _ h9 => h9) rfl (by decide +kernel) rfl rfl (Nat.le_of_ble_eq_true rfl) dX0_put_251 (fun H locs hP hD hS => ?_)
        have hP : va_P (dC, dI) vwCl [(h0, .inr (0, [.int fw, .int fh, .int fs, .int fc, .int fl, .int fe, .ref q1_7, .int (fi + 1), .int (ft + 0), .int fo, .int fa])), (q1_7, .inl (cA_8, tb_rn fi an, .inl (upd (upd (upd (upd (upd (upd (tb_rf fi an af) ((fi * 6) + 0).toNatClampNeg 0) ((fi * 6) + 1).toNatClampNeg 0) ((fi * 6) + 2).toNatClampNeg 0) ((fi * 6) + 3).toNatClampNeg 0) ((fi * 6) + 4).toNatClampNeg a5) ((fi * 6) + 5).toNatClampNeg 0)))] H := hP
        have hD : va_D A [(h0, .inr (0, [.int fw, .int fh, .int fs, .int fc, .int fl, .int fe, .ref q1_7, .int (fi + 1), .int (ft + 0), .int fo, .int fa])), (q1_7, .inl (cA_8, tb_rn fi an, .inl (upd (upd (upd (upd (upd (upd (tb_rf fi an af) ((fi * 6) + 0).toNatClampNeg 0) ((fi * 6) + 1).toNatClampNeg 0) ((fi * 6) + 2).toNatClampNeg 0) ((fi * 6) + 3).toNatClampNeg 0) ((fi * 6) + 4).toNatClampNeg a5) ((fi * 6) + 5).toNatClampNeg 0)))] := hD
        refine lv_aload_n hx hb dX0_put_254 rfl (lv_at hl 7 rfl) ?_
        refine va_get (D := (dC, dI)) (ci := 0) (v := .int (fi + 1)) (C := "TileBins") (T := TX0) (N := 11) hx hb hts inX0 hown hK hP 0 rfl rfl 7 (by decide) (hts _ kw_60) (fun _ h9 => h9) rfl dX0_put_255 ?_
        refine lv_iconst (v := 1) hx hb dX0_put_258 (by first | rfl | decide) ?_
        refine lv_isub hx hb dX0_put_259 ?_
        refine vx_ret ?_
        exact W.iret (v := (fi + 1) - 1) hx hb hr (fun t ht hW => ⟨⟨_, (fw, fh, fs, fc, fl, fe, fi + 1, ft + 0, fo, fa, tb_rn fi an, upd (upd (upd (upd (upd (upd (tb_rf fi an af) ((fi * 6) + 0).toNatClampNeg 0) ((fi * 6) + 1).toNatClampNeg 0) ((fi * 6) + 2).toNatClampNeg 0) ((fi * 6) + 3).toNatClampNeg 0) ((fi * 6) + 4).toNatClampNeg a5) ((fi * 6) + 5).toNatClampNeg 0), rfl, (show ((0, ((fi + 1) - 1 : Int32), (fw, fh, fs, fc, fl, fe, fi + 1, ft + 0, fo, fa, tb_rn fi an, upd (upd (upd (upd (upd (upd (tb_rf fi an af) ((fi * 6) + 0).toNatClampNeg 0) ((fi * 6) + 1).toNatClampNeg 0) ((fi * 6) + 2).toNatClampNeg 0) ((fi * 6) + 3).toNatClampNeg 0) ((fi * 6) + 4).toNatClampNeg a5) ((fi * 6) + 5).toNatClampNeg 0)) : Nat × Int32 × TBA) = tb_put fw fh fs fc fl fe fi ft fo fa an af a1 a2 a3 a4 a5 by unfold tb_put; rw [if_pos c_1, if_neg c_3, if_pos c_6]), q1_7, cA_8, by rw [ht]; exact hP, va_K.moved hW.alike hK, hD⟩, hS.F ht⟩) hS.2.2 dX0_put_260
      · obtain ⟨sa_13, hsa_14⟩ := hZ.str (70, "the field is full") (by decide +kernel)
        exact vx_throwS (rest := []) (mc := 1) (ms := 6144) hx hb hl9 (own := "TileBins") (cls := "java/lang/IllegalStateException") (text := "the field is full") (names := ["java/lang/RuntimeException", "java/lang/Exception"]) hown (by decide +kernel) (by decide +kernel) (hts _ kw_194) (hts _ kw_29) hsa_14 (vx_hat (fun w hw => hts w (hx_Sa w hw)) hx_Sb hZ.bad) hx_Sc hZ.u hZ.n hS (hl.1.trans hml.symm) dX0_put_108 dX0_put_111 dX0_put_112 dX0_put_114 dX0_put_117 (fun x hx => (hEx x hx).elim) (Nat.le_of_ble_eq_true rfl) (Nat.le_of_ble_eq_true rfl) (Nat.le_of_ble_eq_true rfl) (Nat.le_of_ble_eq_true rfl) hlocks (fun t ha hz hk => ⟨(1, (fw, fh, fs, fc, fl, fe, fi, ft, fo, fa, an, af)), ⟨(show ((1 : Nat), (0 : Int32), ((fw, fh, fs, fc, fl, fe, fi, ft, fo, fa, an, af) : TBA)) = tb_put fw fh fs fc fl fe fi ft fo fa an af a1 a2 a3 a4 a5 by unfold tb_put; rw [if_pos c_1, if_neg c_3, if_neg c_6]), rfl⟩, ⟨rfl, q1, cA, ro_kept hP hk, va_K.moved ha hK, hD⟩, th_F hS hz hk⟩) hS.2.2 (Nat.le_of_ble_eq_true rfl) (Nat.le_of_ble_eq_true rfl)
  · refine lv_iload hx hb dX0_put_42 (lv_at hl 2 rfl) ?_
    refine lv_iload hx hb dX0_put_44 (lv_at hl 0 rfl) ?_
    refine lv_icmp_ge (tgt := 53) hx hb dX0_put_46 (by decide) (fun c_15 => ?_) (fun c_15 => ?_)
    · refine lv_iconst (v := 0) hx hb dX0_put_53 (by first | rfl | decide) ?_
      refine lv_istore (lv' := [(10, .int 0), (9, .int (if fh < a4 then fh else a4)), (8, .int (if fw < a3 then fw else a3)), (7, .int (if a2 < 0 then 0 else a2)), (6, .int (if a1 < 0 then 0 else a1)), (0, .ref h0), (1, .int a1), (2, .int a2), (3, .int a3), (4, .int a4), (5, .int a5)]) hx hb dX0_put_54 hl (by decide) rfl (fun ls hl => ?_)
      refine lv_iload hx hb dX0_put_56 (lv_at hl 0 rfl) ?_
      refine lv_if_eq (tgt := 81) hx hb dX0_put_58 (by decide) (fun _ => ?_) (fun c_16 => absurd (by decide) c_16)
      refine lv_iconst (v := 0) hx hb dX0_put_81 (by first | rfl | decide) ?_
      refine lv_istore (lv' := [(11, .int 0), (10, .int 0), (9, .int (if fh < a4 then fh else a4)), (8, .int (if fw < a3 then fw else a3)), (7, .int (if a2 < 0 then 0 else a2)), (6, .int (if a1 < 0 then 0 else a1)), (0, .ref h0), (1, .int a1), (2, .int a2), (3, .int a3), (4, .int a4), (5, .int a5)]) hx hb dX0_put_82 hl (by decide) rfl (fun ls hl => ?_)
      refine lv_aload_n hx hb dX0_put_84 rfl (lv_at hl 6 rfl) ?_
      refine va_get (D := (dC, dI)) (ci := 0) (v := .int fi) (C := "TileBins") (T := TX0) (N := 11) hx hb hts inX0 hown hK hP 0 rfl rfl 7 (by decide) (hts _ kw_60) (fun _ h9 => h9) rfl dX0_put_85 ?_
      refine lv_sipush (v := 4096) hx hb dX0_put_88 (by first | rfl | decide) ?_
      refine lv_icmp_ge (tgt := 108) hx hb dX0_put_91 (by decide) (fun c_17 => ?_) (fun c_17 => ?_)
      · obtain ⟨sa_18, hsa_19⟩ := hZ.str (70, "the field is full") (by decide +kernel)
        exact vx_throwS (rest := []) (mc := 1) (ms := 6144) hx hb hl9 (own := "TileBins") (cls := "java/lang/IllegalStateException") (text := "the field is full") (names := ["java/lang/RuntimeException", "java/lang/Exception"]) hown (by decide +kernel) (by decide +kernel) (hts _ kw_194) (hts _ kw_29) hsa_19 (vx_hat (fun w hw => hts w (hx_Sa w hw)) hx_Sb hZ.bad) hx_Sc hZ.u hZ.n hS (hl.1.trans hml.symm) dX0_put_108 dX0_put_111 dX0_put_112 dX0_put_114 dX0_put_117 (fun x hx => (hEx x hx).elim) (Nat.le_of_ble_eq_true rfl) (Nat.le_of_ble_eq_true rfl) (Nat.le_of_ble_eq_true rfl) (Nat.le_of_ble_eq_true rfl) hlocks (fun t ha hz hk => ⟨(1, (fw, fh, fs, fc, fl, fe, fi, ft, fo, fa, an, af)), ⟨(show ((1 : Nat), (0 : Int32), ((fw, fh, fs, fc, fl, fe, fi, ft, fo, fa, an, af) : TBA)) = tb_put fw fh fs fc fl fe fi ft fo fa an af a1 a2 a3 a4 a5 by unfold tb_put; rw [if_neg c_1, if_pos c_15, if_pos c_17]), rfl⟩, ⟨rfl, q1, cA, ro_kept hP hk, va_K.moved ha hK, hD⟩, th_F hS hz hk⟩) hS.2.2 (Nat.le_of_ble_eq_true rfl) (Nat.le_of_ble_eq_true rfl)
      · refine lv_iload hx hb dX0_put_94 (lv_at hl 0 rfl) ?_
        refine lv_aload_n hx hb dX0_put_96 rfl (lv_at hl 6 rfl) ?_
        refine va_get (D := (dC, dI)) (ci := 0) (v := .int fe) (C := "TileBins") (T := TX0) (N := 11) hx hb hts inX0 hown hK hP 0 rfl rfl 5 (by decide) (hts _ kw_58) (fun _ h9 => h9) rfl dX0_put_97 ?_
        refine lv_aload_n hx hb dX0_put_100 rfl (lv_at hl 6 rfl) ?_
        refine va_get (D := (dC, dI)) (ci := 0) (v := .int ft) (C := "TileBins") (T := TX0) (N := 11) hx hb hts inX0 hown hK hP 0 rfl rfl 8 (by decide) (hts _ kw_61) (fun _ h9 => h9) rfl dX0_put_101 ?_
        refine lv_isub hx hb dX0_put_104 ?_
        refine lv_icmp_le (tgt := 118) hx hb dX0_put_105 (by decide) (fun c_20 => ?_) (fun c_20 => ?_)
        · refine lv_aload_n hx hb dX0_put_118 rfl (lv_at hl 6 rfl) ?_
          have hPc := hP.sub (ws' := [(h0, .inr (0, [.int fw, .int fh, .int fs, .int fc, .int fl, .int fe, .ref q1, .int fi, .int ft, .int fo, .int fa])), (q1, .inl (cA, an, .inl af))]) [0, 1] rfl
          have hDc := hD.sub (ws' := [(h0, .inr (0, [.int fw, .int fh, .int fs, .int fc, .int fl, .int fe, .ref q1, .int fi, .int ft, .int fo, .int fa])), (q1, .inl (cA, an, .inl af))]) [0, 1] (by decide) rfl
          have hKc := hK.sub (tys' := [(cA, .int)]) [0] rfl
          have hFc := va_free (wc := [(h0, .inr (0, [.int fw, .int fh, .int fs, .int fc, .int fl, .int fe, .ref q1, .int fi, .int ft, .int fo, .int fa])), (q1, .inl (cA, an, .inl af))]) hD hS hA [0, 1] rfl
          refine va_callv (va_runV (As := []) (rest := []) ⟨hx, hb, hml, hown, hts⟩ (mtX0_makeRoom l dC dI h0 q1 cA fw fh fs fc fl fe fi ft fo fa an af s.heap.size  (by omega) (fun _ => by omega)) (cwV 0 hts (gb_v kw_210 kw_212 kw_5 kw_22 kw_213) rfl rfl rfl (by decide +kernel) ⟨Nat.le_of_ble_eq_true rfl, Nat.le_of_ble_eq_true rfl⟩) ⟨mu_P.blind, va_recv hKc hPc (ci := 0) (q0 := 0) rfl rfl, mu_P.at hPc hKc hDc⟩ rfl rfl hl.1 rfl (lv_room (Nat.le_of_ble_eq_true rfl)) dX0_put_119 ⟨Nat.le_of_ble_eq_true rfl, Nat.le_of_ble_eq_true rfl⟩) hS (fun q _ h => hFc q h) hFc (fun u t H1 locs ht hvm hw hB hz1 hk1 hS => ?_)
          have hw : u = tb_room fw fh fs fc fl fe fi ft fo fa an af := hw
          subst hw
          obtain ⟨q1_21, cA_22, hP1, hK1, hD1⟩ := hB
          rw [ht] at hP1
          have hK1 := va_K.moved hvm.symm hK1
          obtain ⟨hP, hD⟩ := va_join (wr := []) (w1 := [(h0, .inr (0, [.int fw, .int fh, .int fs, .int fc, .int fl, .int fe, .ref q1_21, .int fi, .int ft, .int fo, .int fa])), (q1_21, .inl (cA_22, tb_rn fi an, .inl (tb_rf fi an af)))]) hP hD [0, 1] [] rfl rfl (by decide) (by decide) hk1 hFc hP1 hD1
          have hK := (hK.sub (tys' := []) [] rfl).app hK1
          generalize H1 = H at hP hS ⊢
          have hP : va_P (dC, dI) vwCl [(h0, .inr (0, [.int fw, .int fh, .int fs, .int fc, .int fl, .int fe, .ref q1_21, .int fi, .int ft, .int fo, .int fa])), (q1_21, .inl (cA_22, tb_rn fi an, .inl (tb_rf fi an af)))] H := hP
          have hD : va_D A [(h0, .inr (0, [.int fw, .int fh, .int fs, .int fc, .int fl, .int fe, .ref q1_21, .int fi, .int ft, .int fo, .int fa])), (q1_21, .inl (cA_22, tb_rn fi an, .inl (tb_rf fi an af)))] := hD
          have hK : va_K (dC, dI) vwCl [(cA_22, .int)] s := hK
          refine lv_aload_n hx hb dX0_put_122 rfl (lv_at hl 6 rfl) ?_
          refine va_get (D := (dC, dI)) (ci := 0) (v := .int fi) (C := "TileBins") (T := TX0) (N := 11) hx hb hts inX0 hown hK hP 0 rfl rfl 7 (by decide) (hts _ kw_60) (fun _ h9 => h9) rfl dX0_put_123 ?_
          refine lv_bipush (v := 6) hx hb dX0_put_126 (by first | rfl | decide) ?_
          refine lv_imul hx hb dX0_put_128 ?_
          refine lv_istore (lv' := [(12, .int (fi * 6)), (11, .int 0), (10, .int 0), (9, .int (if fh < a4 then fh else a4)), (8, .int (if fw < a3 then fw else a3)), (7, .int (if a2 < 0 then 0 else a2)), (6, .int (if a1 < 0 then 0 else a1)), (0, .ref h0), (1, .int a1), (2, .int a2), (3, .int a3), (4, .int a4), (5, .int a5)]) hx hb dX0_put_129 hl (by decide) rfl (fun ls hl => ?_)
          refine lv_aload_n hx hb dX0_put_131 rfl (lv_at hl 7 rfl) ?_
          refine va_get (D := (dC, dI)) (ci := 0) (v := .ref q1_21) (C := "TileBins") (T := TX0) (N := 11) hx hb hts inX0 hown hK hP 0 rfl rfl 6 (by decide) (hts _ kw_59) (fun _ h9 => h9) rfl dX0_put_132 ?_
          refine lv_iload hx hb dX0_put_135 (lv_at hl 0 rfl) ?_
          refine lv_iconst (v := 0) hx hb dX0_put_137 (by first | rfl | decide) ?_
          refine lv_iadd hx hb dX0_put_138 ?_
          refine lv_iload hx hb dX0_put_139 (lv_at hl 2 rfl) ?_
          refine lv_if_eq (tgt := 149) hx hb dX0_put_141 (by decide) (fun _ => ?_) (fun c_23 => absurd (by decide) c_23)
          refine lv_iconst (v := 0) hx hb dX0_put_149 (by first | rfl | decide) ?_
          refine va_iast hx hb hK hP hD hS 1 0 rfl rfl (lm_ix (k := 0) hN (by decide) (by decide) (lm_rn hN hNb hN5 han0 han).1 (lm_rn hN hNb hN5 han0 han).2) dX0_put_150 (fun H locs hP hD hS => ?_)
          have hP : va_P (dC, dI) vwCl [(h0, .inr (0, [.int fw, .int fh, .int fs, .int fc, .int fl, .int fe, .ref q1_21, .int fi, .int ft, .int fo, .int fa])), (q1_21, .inl (cA_22, tb_rn fi an, .inl (upd (tb_rf fi an af) ((fi * 6) + 0).toNatClampNeg 0)))] H := hP
          have hD : va_D A [(h0, .inr (0, [.int fw, .int fh, .int fs, .int fc, .int fl, .int fe, .ref q1_21, .int fi, .int ft, .int fo, .int fa])), (q1_21, .inl (cA_22, tb_rn fi an, .inl (upd (tb_rf fi an af) ((fi * 6) + 0).toNatClampNeg 0)))] := hD
          refine lv_aload_n hx hb dX0_put_151 rfl (lv_at hl 7 rfl) ?_
          refine va_get (D := (dC, dI)) (ci := 0) (v := .ref q1_21) (C := "TileBins") (T := TX0) (N := 11) hx hb hts inX0 hown hK hP 0 rfl rfl 6 (by decide) (hts _ kw_59) (fun _ h9 => h9) rfl dX0_put_152 ?_
          refine lv_iload hx hb dX0_put_155 (lv_at hl 0 rfl) ?_
          refine lv_iconst (v := 1) hx hb dX0_put_157 (by first | rfl | decide) ?_
          refine lv_iadd hx hb dX0_put_158 ?_
          refine lv_iload hx hb dX0_put_159 (lv_at hl 2 rfl) ?_
          refine lv_if_eq (tgt := 169) hx hb dX0_put_161 (by decide) (fun _ => ?_) (fun c_24 => absurd (by decide) c_24)
          refine lv_iconst (v := 0) hx hb dX0_put_169 (by first | rfl | decide) ?_
          refine va_iast hx hb hK hP hD hS 1 0 rfl rfl (lm_ix (k := 1) hN (by decide) (by decide) (lm_rn hN hNb hN5 han0 han).1 (lm_rn hN hNb hN5 han0 han).2) dX0_put_170 (fun H locs hP hD hS => ?_)
          have hP : va_P (dC, dI) vwCl [(h0, .inr (0, [.int fw, .int fh, .int fs, .int fc, .int fl, .int fe, .ref q1_21, .int fi, .int ft, .int fo, .int fa])), (q1_21, .inl (cA_22, tb_rn fi an, .inl (upd (upd (tb_rf fi an af) ((fi * 6) + 0).toNatClampNeg 0) ((fi * 6) + 1).toNatClampNeg 0)))] H := hP
          have hD : va_D A [(h0, .inr (0, [.int fw, .int fh, .int fs, .int fc, .int fl, .int fe, .ref q1_21, .int fi, .int ft, .int fo, .int fa])), (q1_21, .inl (cA_22, tb_rn fi an, .inl (upd (upd (tb_rf fi an af) ((fi * 6) + 0).toNatClampNeg 0) ((fi * 6) + 1).toNatClampNeg 0)))] := hD
          refine lv_aload_n hx hb dX0_put_171 rfl (lv_at hl 7 rfl) ?_
          refine va_get (D := (dC, dI)) (ci := 0) (v := .ref q1_21) (C := "TileBins") (T := TX0) (N := 11) hx hb hts inX0 hown hK hP 0 rfl rfl 6 (by decide) (hts _ kw_59) (fun _ h9 => h9) rfl dX0_put_172 ?_
          refine lv_iload hx hb dX0_put_175 (lv_at hl 0 rfl) ?_
          refine lv_iconst (v := 2) hx hb dX0_put_177 (by first | rfl | decide) ?_
          refine lv_iadd hx hb dX0_put_178 ?_
          refine lv_iload hx hb dX0_put_179 (lv_at hl 2 rfl) ?_
          refine lv_if_eq (tgt := 189) hx hb dX0_put_181 (by decide) (fun _ => ?_) (fun c_25 => absurd (by decide) c_25)
          refine lv_iconst (v := 0) hx hb dX0_put_189 (by first | rfl | decide) ?_
          refine va_iast hx hb hK hP hD hS 1 0 rfl rfl (lm_ix (k := 2) hN (by decide) (by decide) (lm_rn hN hNb hN5 han0 han).1 (lm_rn hN hNb hN5 han0 han).2) dX0_put_190 (fun H locs hP hD hS => ?_)
          have hP : va_P (dC, dI) vwCl [(h0, .inr (0, [.int fw, .int fh, .int fs, .int fc, .int fl, .int fe, .ref q1_21, .int fi, .int ft, .int fo, .int fa])), (q1_21, .inl (cA_22, tb_rn fi an, .inl (upd (upd (upd (tb_rf fi an af) ((fi * 6) + 0).toNatClampNeg 0) ((fi * 6) + 1).toNatClampNeg 0) ((fi * 6) + 2).toNatClampNeg 0)))] H := hP
          have hD : va_D A [(h0, .inr (0, [.int fw, .int fh, .int fs, .int fc, .int fl, .int fe, .ref q1_21, .int fi, .int ft, .int fo, .int fa])), (q1_21, .inl (cA_22, tb_rn fi an, .inl (upd (upd (upd (tb_rf fi an af) ((fi * 6) + 0).toNatClampNeg 0) ((fi * 6) + 1).toNatClampNeg 0) ((fi * 6) + 2).toNatClampNeg 0)))] := hD
          refine lv_aload_n hx hb dX0_put_191 rfl (lv_at hl 7 rfl) ?_
          refine va_get (D := (dC, dI)) (ci := 0) (v := .ref q1_21) (C := "TileBins") (T := TX0) (N := 11) hx hb hts inX0 hown hK hP 0 rfl rfl 6 (by decide) (hts _ kw_59) (fun _ h9 => h9) rfl dX0_put_192 ?_
          refine lv_iload hx hb dX0_put_195 (lv_at hl 0 rfl) ?_
          refine lv_iconst (v := 3) hx hb dX0_put_197 (by first | rfl | decide) ?_
          refine lv_iadd hx hb dX0_put_198 ?_
          refine lv_iload hx hb dX0_put_199 (lv_at hl 2 rfl) ?_
          refine lv_if_eq (tgt := 209) hx hb dX0_put_201 (by decide) (fun _ => ?_) (fun c_26 => absurd (by decide) c_26)
          refine lv_iconst (v := 0) hx hb dX0_put_209 (by first | rfl | decide) ?_
          refine va_iast hx hb hK hP hD hS 1 0 rfl rfl (lm_ix (k := 3) hN (by decide) (by decide) (lm_rn hN hNb hN5 han0 han).1 (lm_rn hN hNb hN5 han0 han).2) dX0_put_210 (fun H locs hP hD hS => ?_)
          have hP : va_P (dC, dI) vwCl [(h0, .inr (0, [.int fw, .int fh, .int fs, .int fc, .int fl, .int fe, .ref q1_21, .int fi, .int ft, .int fo, .int fa])), (q1_21, .inl (cA_22, tb_rn fi an, .inl (upd (upd (upd (upd (tb_rf fi an af) ((fi * 6) + 0).toNatClampNeg 0) ((fi * 6) + 1).toNatClampNeg 0) ((fi * 6) + 2).toNatClampNeg 0) ((fi * 6) + 3).toNatClampNeg 0)))] H := hP
          have hD : va_D A [(h0, .inr (0, [.int fw, .int fh, .int fs, .int fc, .int fl, .int fe, .ref q1_21, .int fi, .int ft, .int fo, .int fa])), (q1_21, .inl (cA_22, tb_rn fi an, .inl (upd (upd (upd (upd (tb_rf fi an af) ((fi * 6) + 0).toNatClampNeg 0) ((fi * 6) + 1).toNatClampNeg 0) ((fi * 6) + 2).toNatClampNeg 0) ((fi * 6) + 3).toNatClampNeg 0)))] := hD
          refine lv_aload_n hx hb dX0_put_211 rfl (lv_at hl 7 rfl) ?_
          refine va_get (D := (dC, dI)) (ci := 0) (v := .ref q1_21) (C := "TileBins") (T := TX0) (N := 11) hx hb hts inX0 hown hK hP 0 rfl rfl 6 (by decide) (hts _ kw_59) (fun _ h9 => h9) rfl dX0_put_212 ?_
          refine lv_iload hx hb dX0_put_215 (lv_at hl 0 rfl) ?_
          refine lv_iconst (v := 4) hx hb dX0_put_217 (by first | rfl | decide) ?_
          refine lv_iadd hx hb dX0_put_218 ?_
          refine lv_iload hx hb dX0_put_219 (lv_at hl 12 rfl) ?_
          refine va_iast hx hb hK hP hD hS 1 0 rfl rfl (lm_ix (k := 4) hN (by decide) (by decide) (lm_rn hN hNb hN5 han0 han).1 (lm_rn hN hNb hN5 han0 han).2) dX0_put_221 (fun H locs hP hD hS => ?_)
          have hP : va_P (dC, dI) vwCl [(h0, .inr (0, [.int fw, .int fh, .int fs, .int fc, .int fl, .int fe, .ref q1_21, .int fi, .int ft, .int fo, .int fa])), (q1_21, .inl (cA_22, tb_rn fi an, .inl (upd (upd (upd (upd (upd (tb_rf fi an af) ((fi * 6) + 0).toNatClampNeg 0) ((fi * 6) + 1).toNatClampNeg 0) ((fi * 6) + 2).toNatClampNeg 0) ((fi * 6) + 3).toNatClampNeg 0) ((fi * 6) + 4).toNatClampNeg a5)))] H := hP
          have hD : va_D A [(h0, .inr (0, [.int fw, .int fh, .int fs, .int fc, .int fl, .int fe, .ref q1_21, .int fi, .int ft, .int fo, .int fa])), (q1_21, .inl (cA_22, tb_rn fi an, .inl (upd (upd (upd (upd (upd (tb_rf fi an af) ((fi * 6) + 0).toNatClampNeg 0) ((fi * 6) + 1).toNatClampNeg 0) ((fi * 6) + 2).toNatClampNeg 0) ((fi * 6) + 3).toNatClampNeg 0) ((fi * 6) + 4).toNatClampNeg a5)))] := hD
          refine lv_aload_n hx hb dX0_put_222 rfl (lv_at hl 7 rfl) ?_
          refine va_get (D := (dC, dI)) (ci := 0) (v := .ref q1_21) (C := "TileBins") (T := TX0) (N := 11) hx hb hts inX0 hown hK hP 0 rfl rfl 6 (by decide) (hts _ kw_59) (fun _ h9 => h9) rfl dX0_put_223 ?_
          refine lv_iload hx hb dX0_put_226 (lv_at hl 0 rfl) ?_
          refine lv_iconst (v := 5) hx hb dX0_put_228 (by first | rfl | decide) ?_
          refine lv_iadd hx hb dX0_put_229 ?_
          refine lv_iload hx hb dX0_put_230 (lv_at hl 1 rfl) ?_
          refine va_iast hx hb hK hP hD hS 1 0 rfl rfl (lm_ix (k := 5) hN (by decide) (by decide) (lm_rn hN hNb hN5 han0 han).1 (lm_rn hN hNb hN5 han0 han).2) dX0_put_232 (fun H locs hP hD hS => ?_)
          have hP : va_P (dC, dI) vwCl [(h0, .inr (0, [.int fw, .int fh, .int fs, .int fc, .int fl, .int fe, .ref q1_21, .int fi, .int ft, .int fo, .int fa])), (q1_21, .inl (cA_22, tb_rn fi an, .inl (upd (upd (upd (upd (upd (upd (tb_rf fi an af) ((fi * 6) + 0).toNatClampNeg 0) ((fi * 6) + 1).toNatClampNeg 0) ((fi * 6) + 2).toNatClampNeg 0) ((fi * 6) + 3).toNatClampNeg 0) ((fi * 6) + 4).toNatClampNeg a5) ((fi * 6) + 5).toNatClampNeg 0)))] H := hP
          have hD : va_D A [(h0, .inr (0, [.int fw, .int fh, .int fs, .int fc, .int fl, .int fe, .ref q1_21, .int fi, .int ft, .int fo, .int fa])), (q1_21, .inl (cA_22, tb_rn fi an, .inl (upd (upd (upd (upd (upd (upd (tb_rf fi an af) ((fi * 6) + 0).toNatClampNeg 0) ((fi * 6) + 1).toNatClampNeg 0) ((fi * 6) + 2).toNatClampNeg 0) ((fi * 6) + 3).toNatClampNeg 0) ((fi * 6) + 4).toNatClampNeg a5) ((fi * 6) + 5).toNatClampNeg 0)))] := hD
          refine lv_aload_n hx hb dX0_put_233 rfl (lv_at hl 7 rfl) ?_
          refine lv_dup hx hb dX0_put_234 rfl ?_
          refine va_get (D := (dC, dI)) (ci := 0) (v := .int fi) (C := "TileBins") (T := TX0) (N := 11) hx hb hts inX0 hown hK hP 0 rfl rfl 7 (by decide) (hts _ kw_60) (fun _ h9 => h9) rfl dX0_put_235 ?_
          refine lv_iconst (v := 1) hx hb dX0_put_238 (by first | rfl | decide) ?_
          refine lv_iadd hx hb dX0_put_239 ?_
          refine va_put (D := (dC, dI)) (ci := 0) (v := .int (fi + 1)) (ty := .int) (C := "TileBins") (T := TX0) (N := 11) hx hb hts inX0 tyX0 tyX0_ok nmX0 hown hK hP hD hS 0 rfl rfl 7 (by decide) (hts _ kw_60) (fun _ h9 => h9) rfl (by decide +kernel) rfl rfl (Nat.le_of_ble_eq_true rfl) dX0_put_240 (fun H locs hP hD hS => ?_)
          have hP : va_P (dC, dI) vwCl [(h0, .inr (0, [.int fw, .int fh, .int fs, .int fc, .int fl, .int fe, .ref q1_21, .int (fi + 1), .int ft, .int fo, .int fa])), (q1_21, .inl (cA_22, tb_rn fi an, .inl (upd (upd (upd (upd (upd (upd (tb_rf fi an af) ((fi * 6) + 0).toNatClampNeg 0) ((fi * 6) + 1).toNatClampNeg 0) ((fi * 6) + 2).toNatClampNeg 0) ((fi * 6) + 3).toNatClampNeg 0) ((fi * 6) + 4).toNatClampNeg a5) ((fi * 6) + 5).toNatClampNeg 0)))] H := hP
          have hD : va_D A [(h0, .inr (0, [.int fw, .int fh, .int fs, .int fc, .int fl, .int fe, .ref q1_21, .int (fi + 1), .int ft, .int fo, .int fa])), (q1_21, .inl (cA_22, tb_rn fi an, .inl (upd (upd (upd (upd (upd (upd (tb_rf fi an af) ((fi * 6) + 0).toNatClampNeg 0) ((fi * 6) + 1).toNatClampNeg 0) ((fi * 6) + 2).toNatClampNeg 0) ((fi * 6) + 3).toNatClampNeg 0) ((fi * 6) + 4).toNatClampNeg a5) ((fi * 6) + 5).toNatClampNeg 0)))] := hD
          refine lv_aload_n hx hb dX0_put_243 rfl (lv_at hl 7 rfl) ?_
          refine lv_dup hx hb dX0_put_244 rfl ?_
          refine va_get (D := (dC, dI)) (ci := 0) (v := .int ft) (C := "TileBins") (T := TX0) (N := 11) hx hb hts inX0 hown hK hP 0 rfl rfl 8 (by decide) (hts _ kw_61) (fun _ h9 => h9) rfl dX0_put_245 ?_
          refine lv_iload hx hb dX0_put_248 (lv_at hl 1 rfl) ?_
          refine lv_iadd hx hb dX0_put_250 ?_
          refine va_put (D := (dC, dI)) (ci := 0) (v := .int (ft + 0)) (ty := .int) (C := "TileBins") (T := TX0) (N := 11) hx hb hts inX0 tyX0 tyX0_ok nmX0 hown hK hP hD hS 0 rfl rfl 8 (by decide) (hts _ kw_61) (fun _ h9 => h9) rfl (by decide +kernel) rfl rfl (Nat.le_of_ble_eq_true rfl) dX0_put_251 (fun H locs hP hD hS => ?_)
          have hP : va_P (dC, dI) vwCl [(h0, .inr (0, [.int fw, .int fh, .int fs, .int fc, .int fl, .int fe, .ref q1_21, .int (fi + 1), .int (ft + 0), .int fo, .int fa])), (q1_21, .inl (cA_22, tb_rn fi an, .inl (upd (upd (upd (upd (upd (upd (tb_rf fi an af) ((fi * 6) + 0).toNatClampNeg 0) ((fi * 6) + 1).toNatClampNeg 0) ((fi * 6) + 2).toNatClampNeg 0) ((fi * 6) + 3).toNatClampNeg 0) ((fi * 6) + 4).toNatClampNeg a5) ((fi * 6) + 5).toNatClampNeg 0)))] H := hP
          have hD : va_D A [(h0, .inr (0, [.int fw, .int fh, .int fs, .int fc, .int fl, .int fe, .ref q1_21, .int (fi + 1), .int (ft + 0), .int fo, .int fa])), (q1_21, .inl (cA_22, tb_rn fi an, .inl (upd (upd (upd (upd (upd (upd (tb_rf fi an af) ((fi * 6) + 0).toNatClampNeg 0) ((fi * 6) + 1).toNatClampNeg 0) ((fi * 6) + 2).toNatClampNeg 0) ((fi * 6) + 3).toNatClampNeg 0) ((fi * 6) + 4).toNatClampNeg a5) ((fi * 6) + 5).toNatClampNeg 0)))] := hD
          refine lv_aload_n hx hb dX0_put_254 rfl (lv_at hl 7 rfl) ?_
          refine va_get (D := (dC, dI)) (ci := 0) (v := .int (fi + 1)) (C := "TileBins") (T := TX0) (N := 11) hx hb hts inX0 hown hK hP 0 rfl rfl 7 (by decide) (hts _ kw_60) (fun _ h9 => h9) rfl dX0_put_255 ?_
          refine lv_iconst (v := 1) hx hb dX0_put_258 (by first | rfl | decide) ?_
          refine lv_isub hx hb dX0_put_259 ?_
          refine vx_ret ?_
          exact W.iret (v := (fi + 1) - 1) hx hb hr (fun t ht hW => ⟨⟨_, (fw, fh, fs, fc, fl, fe, fi + 1, ft + 0, fo, fa, tb_rn fi an, upd (upd (upd (upd (upd (upd (tb_rf fi an af) ((fi * 6) + 0).toNatClampNeg 0) ((fi * 6) + 1).toNatClampNeg 0) ((fi * 6) + 2).toNatClampNeg 0) ((fi * 6) + 3).toNatClampNeg 0) ((fi * 6) + 4).toNatClampNeg a5) ((fi * 6) + 5).toNatClampNeg 0), rfl, (show ((0, ((fi + 1) - 1 : Int32), (fw, fh, fs, fc, fl, fe, fi + 1, ft + 0, fo, fa, tb_rn fi an, upd (upd (upd (upd (upd (upd (tb_rf fi an af) ((fi * 6) + 0).toNatClampNeg 0) ((fi * 6) + 1).toNatClampNeg 0) ((fi * 6) + 2).toNatClampNeg 0) ((fi * 6) + 3).toNatClampNeg 0) ((fi * 6) + 4).toNatClampNeg a5) ((fi * 6) + 5).toNatClampNeg 0)) : Nat × Int32 × TBA) = tb_put fw fh fs fc fl fe fi ft fo fa an af a1 a2 a3 a4 a5 by unfold tb_put; rw [if_neg c_1, if_pos c_15, if_neg c_17, if_pos c_20]), q1_21, cA_22, by rw [ht]; exact hP, va_K.moved hW.alike hK, hD⟩, hS.F ht⟩) hS.2.2 dX0_put_260
        · obtain ⟨sa_27, hsa_28⟩ := hZ.str (70, "the field is full") (by decide +kernel)
          exact vx_throwS (rest := []) (mc := 1) (ms := 6144) hx hb hl9 (own := "TileBins") (cls := "java/lang/IllegalStateException") (text := "the field is full") (names := ["java/lang/RuntimeException", "java/lang/Exception"]) hown (by decide +kernel) (by decide +kernel) (hts _ kw_194) (hts _ kw_29) hsa_28 (vx_hat (fun w hw => hts w (hx_Sa w hw)) hx_Sb hZ.bad) hx_Sc hZ.u hZ.n hS (hl.1.trans hml.symm) dX0_put_108 dX0_put_111 dX0_put_112 dX0_put_114 dX0_put_117 (fun x hx => (hEx x hx).elim) (Nat.le_of_ble_eq_true rfl) (Nat.le_of_ble_eq_true rfl) (Nat.le_of_ble_eq_true rfl) (Nat.le_of_ble_eq_true rfl) hlocks (fun t ha hz hk => ⟨(1, (fw, fh, fs, fc, fl, fe, fi, ft, fo, fa, an, af)), ⟨(show ((1 : Nat), (0 : Int32), ((fw, fh, fs, fc, fl, fe, fi, ft, fo, fa, an, af) : TBA)) = tb_put fw fh fs fc fl fe fi ft fo fa an af a1 a2 a3 a4 a5 by unfold tb_put; rw [if_neg c_1, if_pos c_15, if_neg c_17, if_neg c_20]), rfl⟩, ⟨rfl, q1, cA, ro_kept hP hk, va_K.moved ha hK, hD⟩, th_F hS hz hk⟩) hS.2.2 (Nat.le_of_ble_eq_true rfl) (Nat.le_of_ble_eq_true rfl)
    · refine lv_iconst (v := 1) hx hb dX0_put_49 (by first | rfl | decide) ?_
      refine lv_goto (tgt := 54) hx hb dX0_put_50 (by decide) ?_
      refine lv_istore (lv' := [(10, .int 1), (9, .int (if fh < a4 then fh else a4)), (8, .int (if fw < a3 then fw else a3)), (7, .int (if a2 < 0 then 0 else a2)), (6, .int (if a1 < 0 then 0 else a1)), (0, .ref h0), (1, .int a1), (2, .int a2), (3, .int a3), (4, .int a4), (5, .int a5)]) hx hb dX0_put_54 hl (by decide) rfl (fun ls hl => ?_)
      refine lv_iload hx hb dX0_put_56 (lv_at hl 0 rfl) ?_
      refine lv_if_eq (tgt := 81) hx hb dX0_put_58 (by decide) (fun c_29 => absurd c_29 (by decide)) (fun _ => ?_)
      refine lv_aload_n hx hb dX0_put_61 rfl (lv_at hl 5 rfl) ?_
      refine lv_iload hx hb dX0_put_62 (lv_at hl 4 rfl) ?_
      refine lv_iload hx hb dX0_put_64 (lv_at hl 2 rfl) ?_
      refine ro_calli (va_runV (As := [.int (if a1 < 0 then 0 else a1), .int (if fw < a3 then fw else a3)]) (rest := []) ⟨hx, hb, hml, hown, hts⟩ (mtX0_tilesAcross l dC dI h0 q1 cA fw fh fs fc fl fe fi ft fo fa an af s.heap.size (if a1 < 0 then 0 else a1) (if fw < a3 then fw else a3)) (cwV 2 hts (gb_v kw_45 kw_47 kw_1 kw_22 kw_48) rfl rfl rfl (by decide +kernel) ⟨Nat.le_of_ble_eq_true rfl, Nat.le_of_ble_eq_true rfl⟩) ⟨ro_P.blind, va_recv hK hP (ci := 0) (q0 := 0) rfl rfl, ro_P.at hP hK⟩ rfl rfl hl.1 rfl (lv_room (Nat.le_of_ble_eq_true rfl)) dX0_put_66 ⟨Nat.le_of_ble_eq_true rfl, Nat.le_of_ble_eq_true rfl⟩) hP hS hA (fun H locs hP hS hz hk => ?_)
      refine lv_aload_n hx hb dX0_put_69 rfl (lv_at hl 5 rfl) ?_
      refine lv_iload hx hb dX0_put_70 (lv_at hl 3 rfl) ?_
      refine lv_iload hx hb dX0_put_72 (lv_at hl 1 rfl) ?_
      refine ro_calli (va_runV (As := [.int (if a2 < 0 then 0 else a2), .int (if fh < a4 then fh else a4)]) (rest := [.int (tb_across fs (if a1 < 0 then 0 else a1) (if fw < a3 then fw else a3))]) ⟨hx, hb, hml, hown, hts⟩ (mtX0_tilesAcross l dC dI h0 q1 cA fw fh fs fc fl fe fi ft fo fa an af H.size (if a2 < 0 then 0 else a2) (if fh < a4 then fh else a4)) (cwV 2 hts (gb_v kw_45 kw_47 kw_1 kw_22 kw_48) rfl rfl rfl (by decide +kernel) ⟨Nat.le_of_ble_eq_true rfl, Nat.le_of_ble_eq_true rfl⟩) ⟨ro_P.blind, va_recv hK hP (ci := 0) (q0 := 0) rfl rfl, ro_P.at hP hK⟩ rfl rfl hl.1 rfl (lv_room (Nat.le_of_ble_eq_true rfl)) dX0_put_74 ⟨Nat.le_of_ble_eq_true rfl, Nat.le_of_ble_eq_true rfl⟩) hP hS hA (fun H locs hP hS hz hk => ?_)
      refine lv_imul hx hb dX0_put_77 ?_
      refine lv_goto (tgt := 82) hx hb dX0_put_78 (by decide) ?_
      refine lv_istore (lv' := [(11, .int ((tb_across fs (if a1 < 0 then 0 else a1) (if fw < a3 then fw else a3)) * (tb_across fs (if a2 < 0 then 0 else a2) (if fh < a4 then fh else a4)))), (10, .int 1), (9, .int (if fh < a4 then fh else a4)), (8, .int (if fw < a3 then fw else a3)), (7, .int (if a2 < 0 then 0 else a2)), (6, .int (if a1 < 0 then 0 else a1)), (0, .ref h0), (1, .int a1), (2, .int a2), (3, .int a3), (4, .int a4), (5, .int a5)]) hx hb dX0_put_82 hl (by decide) rfl (fun ls hl => ?_)
      refine lv_aload_n hx hb dX0_put_84 rfl (lv_at hl 6 rfl) ?_
      refine va_get (D := (dC, dI)) (ci := 0) (v := .int fi) (C := "TileBins") (T := TX0) (N := 11) hx hb hts inX0 hown hK hP 0 rfl rfl 7 (by decide) (hts _ kw_60) (fun _ h9 => h9) rfl dX0_put_85 ?_
      refine lv_sipush (v := 4096) hx hb dX0_put_88 (by first | rfl | decide) ?_
      refine lv_icmp_ge (tgt := 108) hx hb dX0_put_91 (by decide) (fun c_30 => ?_) (fun c_30 => ?_)
      · obtain ⟨sa_31, hsa_32⟩ := hZ.str (70, "the field is full") (by decide +kernel)
        exact vx_throwS (rest := []) (mc := 1) (ms := 6144) hx hb hl9 (own := "TileBins") (cls := "java/lang/IllegalStateException") (text := "the field is full") (names := ["java/lang/RuntimeException", "java/lang/Exception"]) hown (by decide +kernel) (by decide +kernel) (hts _ kw_194) (hts _ kw_29) hsa_32 (vx_hat (fun w hw => hts w (hx_Sa w hw)) hx_Sb hZ.bad) hx_Sc hZ.u hZ.n hS (hl.1.trans hml.symm) dX0_put_108 dX0_put_111 dX0_put_112 dX0_put_114 dX0_put_117 (fun x hx => (hEx x hx).elim) (Nat.le_of_ble_eq_true rfl) (Nat.le_of_ble_eq_true rfl) (Nat.le_of_ble_eq_true rfl) (Nat.le_of_ble_eq_true rfl) hlocks (fun t ha hz hk => ⟨(1, (fw, fh, fs, fc, fl, fe, fi, ft, fo, fa, an, af)), ⟨(show ((1 : Nat), (0 : Int32), ((fw, fh, fs, fc, fl, fe, fi, ft, fo, fa, an, af) : TBA)) = tb_put fw fh fs fc fl fe fi ft fo fa an af a1 a2 a3 a4 a5 by unfold tb_put; rw [if_neg c_1, if_neg c_15, if_pos c_30]), rfl⟩, ⟨rfl, q1, cA, ro_kept hP hk, va_K.moved ha hK, hD⟩, th_F hS hz hk⟩) hS.2.2 (Nat.le_of_ble_eq_true rfl) (Nat.le_of_ble_eq_true rfl)
      · refine lv_iload hx hb dX0_put_94 (lv_at hl 0 rfl) ?_
        refine lv_aload_n hx hb dX0_put_96 rfl (lv_at hl 6 rfl) ?_
        refine va_get (D := (dC, dI)) (ci := 0) (v := .int fe) (C := "TileBins") (T := TX0) (N := 11) hx hb hts inX0 hown hK hP 0 rfl rfl 5 (by decide) (hts _ kw_58) (fun _ h9 => h9) rfl dX0_put_97 ?_
        refine lv_aload_n hx hb dX0_put_100 rfl (lv_at hl 6 rfl) ?_
        refine va_get (D := (dC, dI)) (ci := 0) (v := .int ft) (C := "TileBins") (T := TX0) (N := 11) hx hb hts inX0 hown hK hP 0 rfl rfl 8 (by decide) (hts _ kw_61) (fun _ h9 => h9) rfl dX0_put_101 ?_
        refine lv_isub hx hb dX0_put_104 ?_
        refine lv_icmp_le (tgt := 118) hx hb dX0_put_105 (by decide) (fun c_33 => ?_) (fun c_33 => ?_)
        · refine lv_aload_n hx hb dX0_put_118 rfl (lv_at hl 6 rfl) ?_
          have hPc := hP.sub (ws' := [(h0, .inr (0, [.int fw, .int fh, .int fs, .int fc, .int fl, .int fe, .ref q1, .int fi, .int ft, .int fo, .int fa])), (q1, .inl (cA, an, .inl af))]) [0, 1] rfl
          have hDc := hD.sub (ws' := [(h0, .inr (0, [.int fw, .int fh, .int fs, .int fc, .int fl, .int fe, .ref q1, .int fi, .int ft, .int fo, .int fa])), (q1, .inl (cA, an, .inl af))]) [0, 1] (by decide) rfl
          have hKc := hK.sub (tys' := [(cA, .int)]) [0] rfl
          have hFc := va_free (wc := [(h0, .inr (0, [.int fw, .int fh, .int fs, .int fc, .int fl, .int fe, .ref q1, .int fi, .int ft, .int fo, .int fa])), (q1, .inl (cA, an, .inl af))]) hD hS hA [0, 1] rfl
          refine va_callv (va_runV (As := []) (rest := []) ⟨hx, hb, hml, hown, hts⟩ (mtX0_makeRoom l dC dI h0 q1 cA fw fh fs fc fl fe fi ft fo fa an af H.size  (by omega) (fun _ => by omega)) (cwV 0 hts (gb_v kw_210 kw_212 kw_5 kw_22 kw_213) rfl rfl rfl (by decide +kernel) ⟨Nat.le_of_ble_eq_true rfl, Nat.le_of_ble_eq_true rfl⟩) ⟨mu_P.blind, va_recv hKc hPc (ci := 0) (q0 := 0) rfl rfl, mu_P.at hPc hKc hDc⟩ rfl rfl hl.1 rfl (lv_room (Nat.le_of_ble_eq_true rfl)) dX0_put_119 ⟨Nat.le_of_ble_eq_true rfl, Nat.le_of_ble_eq_true rfl⟩) hS (fun q _ h => hFc q h) hFc (fun u t H1 locs ht hvm hw hB hz1 hk1 hS => ?_)
          have hw : u = tb_room fw fh fs fc fl fe fi ft fo fa an af := hw
          subst hw
          obtain ⟨q1_34, cA_35, hP1, hK1, hD1⟩ := hB
          rw [ht] at hP1
          have hK1 := va_K.moved hvm.symm hK1
          obtain ⟨hP, hD⟩ := va_join (wr := []) (w1 := [(h0, .inr (0, [.int fw, .int fh, .int fs, .int fc, .int fl, .int fe, .ref q1_34, .int fi, .int ft, .int fo, .int fa])), (q1_34, .inl (cA_35, tb_rn fi an, .inl (tb_rf fi an af)))]) hP hD [0, 1] [] rfl rfl (by decide) (by decide) hk1 hFc hP1 hD1
          have hK := (hK.sub (tys' := []) [] rfl).app hK1
          generalize H1 = H at hP hS ⊢
          have hP : va_P (dC, dI) vwCl [(h0, .inr (0, [.int fw, .int fh, .int fs, .int fc, .int fl, .int fe, .ref q1_34, .int fi, .int ft, .int fo, .int fa])), (q1_34, .inl (cA_35, tb_rn fi an, .inl (tb_rf fi an af)))] H := hP
          have hD : va_D A [(h0, .inr (0, [.int fw, .int fh, .int fs, .int fc, .int fl, .int fe, .ref q1_34, .int fi, .int ft, .int fo, .int fa])), (q1_34, .inl (cA_35, tb_rn fi an, .inl (tb_rf fi an af)))] := hD
          have hK : va_K (dC, dI) vwCl [(cA_35, .int)] s := hK
          refine lv_aload_n hx hb dX0_put_122 rfl (lv_at hl 6 rfl) ?_
          refine va_get (D := (dC, dI)) (ci := 0) (v := .int fi) (C := "TileBins") (T := TX0) (N := 11) hx hb hts inX0 hown hK hP 0 rfl rfl 7 (by decide) (hts _ kw_60) (fun _ h9 => h9) rfl dX0_put_123 ?_
          refine lv_bipush (v := 6) hx hb dX0_put_126 (by first | rfl | decide) ?_
          refine lv_imul hx hb dX0_put_128 ?_
          refine lv_istore (lv' := [(12, .int (fi * 6)), (11, .int ((tb_across fs (if a1 < 0 then 0 else a1) (if fw < a3 then fw else a3)) * (tb_across fs (if a2 < 0 then 0 else a2) (if fh < a4 then fh else a4)))), (10, .int 1), (9, .int (if fh < a4 then fh else a4)), (8, .int (if fw < a3 then fw else a3)), (7, .int (if a2 < 0 then 0 else a2)), (6, .int (if a1 < 0 then 0 else a1)), (0, .ref h0), (1, .int a1), (2, .int a2), (3, .int a3), (4, .int a4), (5, .int a5)]) hx hb dX0_put_129 hl (by decide) rfl (fun ls hl => ?_)
          refine lv_aload_n hx hb dX0_put_131 rfl (lv_at hl 7 rfl) ?_
          refine va_get (D := (dC, dI)) (ci := 0) (v := .ref q1_34) (C := "TileBins") (T := TX0) (N := 11) hx hb hts inX0 hown hK hP 0 rfl rfl 6 (by decide) (hts _ kw_59) (fun _ h9 => h9) rfl dX0_put_132 ?_
          refine lv_iload hx hb dX0_put_135 (lv_at hl 0 rfl) ?_
          refine lv_iconst (v := 0) hx hb dX0_put_137 (by first | rfl | decide) ?_
          refine lv_iadd hx hb dX0_put_138 ?_
          refine lv_iload hx hb dX0_put_139 (lv_at hl 2 rfl) ?_
          refine lv_if_eq (tgt := 149) hx hb dX0_put_141 (by decide) (fun c_36 => absurd c_36 (by decide)) (fun _ => ?_)
          refine lv_iload hx hb dX0_put_144 (lv_at hl 6 rfl) ?_
          refine lv_goto (tgt := 150) hx hb dX0_put_146 (by decide) ?_
          refine va_iast hx hb hK hP hD hS 1 0 rfl rfl (lm_ix (k := 0) hN (by decide) (by decide) (lm_rn hN hNb hN5 han0 han).1 (lm_rn hN hNb hN5 han0 han).2) dX0_put_150 (fun H locs hP hD hS => ?_)
          have hP : va_P (dC, dI) vwCl [(h0, .inr (0, [.int fw, .int fh, .int fs, .int fc, .int fl, .int fe, .ref q1_34, .int fi, .int ft, .int fo, .int fa])), (q1_34, .inl (cA_35, tb_rn fi an, .inl (upd (tb_rf fi an af) ((fi * 6) + 0).toNatClampNeg (if a1 < 0 then 0 else a1))))] H := hP
          have hD : va_D A [(h0, .inr (0, [.int fw, .int fh, .int fs, .int fc, .int fl, .int fe, .ref q1_34, .int fi, .int ft, .int fo, .int fa])), (q1_34, .inl (cA_35, tb_rn fi an, .inl (upd (tb_rf fi an af) ((fi * 6) + 0).toNatClampNeg (if a1 < 0 then 0 else a1))))] := hD
          refine lv_aload_n hx hb dX0_put_151 rfl (lv_at hl 7 rfl) ?_
          refine va_get (D := (dC, dI)) (ci := 0) (v := .ref q1_34) (C := "TileBins") (T := TX0) (N := 11) hx hb hts inX0 hown hK hP 0 rfl rfl 6 (by decide) (hts _ kw_59) (fun _ h9 => h9) rfl dX0_put_152 ?_
          refine lv_iload hx hb dX0_put_155 (lv_at hl 0 rfl) ?_
          refine lv_iconst (v := 1) hx hb dX0_put_157 (by first | rfl | decide) ?_
          refine lv_iadd hx hb dX0_put_158 ?_
          refine lv_iload hx hb dX0_put_159 (lv_at hl 2 rfl) ?_
          refine lv_if_eq (tgt := 169) hx hb dX0_put_161 (by decide) (fun c_37 => absurd c_37 (by decide)) (fun _ => ?_)
          refine lv_iload hx hb dX0_put_164 (lv_at hl 5 rfl) ?_
          refine lv_goto (tgt := 170) hx hb dX0_put_166 (by decide) ?_
          refine va_iast hx hb hK hP hD hS 1 0 rfl rfl (lm_ix (k := 1) hN (by decide) (by decide) (lm_rn hN hNb hN5 han0 han).1 (lm_rn hN hNb hN5 han0 han).2) dX0_put_170 (fun H locs hP hD hS => ?_)
          have hP : va_P (dC, dI) vwCl [(h0, .inr (0, [.int fw, .int fh, .int fs, .int fc, .int fl, .int fe, .ref q1_34, .int fi, .int ft, .int fo, .int fa])), (q1_34, .inl (cA_35, tb_rn fi an, .inl (upd (upd (tb_rf fi an af) ((fi * 6) + 0).toNatClampNeg (if a1 < 0 then 0 else a1)) ((fi * 6) + 1).toNatClampNeg (if a2 < 0 then 0 else a2))))] H := hP
          have hD : va_D A [(h0, .inr (0, [.int fw, .int fh, .int fs, .int fc, .int fl, .int fe, .ref q1_34, .int fi, .int ft, .int fo, .int fa])), (q1_34, .inl (cA_35, tb_rn fi an, .inl (upd (upd (tb_rf fi an af) ((fi * 6) + 0).toNatClampNeg (if a1 < 0 then 0 else a1)) ((fi * 6) + 1).toNatClampNeg (if a2 < 0 then 0 else a2))))] := hD
          refine lv_aload_n hx hb dX0_put_171 rfl (lv_at hl 7 rfl) ?_
          refine va_get (D := (dC, dI)) (ci := 0) (v := .ref q1_34) (C := "TileBins") (T := TX0) (N := 11) hx hb hts inX0 hown hK hP 0 rfl rfl 6 (by decide) (hts _ kw_59) (fun _ h9 => h9) rfl dX0_put_172 ?_
          refine lv_iload hx hb dX0_put_175 (lv_at hl 0 rfl) ?_
          refine lv_iconst (v := 2) hx hb dX0_put_177 (by first | rfl | decide) ?_
          refine lv_iadd hx hb dX0_put_178 ?_
          refine lv_iload hx hb dX0_put_179 (lv_at hl 2 rfl) ?_
          refine lv_if_eq (tgt := 189) hx hb dX0_put_181 (by decide) (fun c_38 => absurd c_38 (by decide)) (fun _ => ?_)
          refine lv_iload hx hb dX0_put_184 (lv_at hl 4 rfl) ?_
          refine lv_goto (tgt := 190) hx hb dX0_put_186 (by decide) ?_
          refine va_iast hx hb hK hP hD hS 1 0 rfl rfl (lm_ix (k := 2) hN (by decide) (by decide) (lm_rn hN hNb hN5 han0 han).1 (lm_rn hN hNb hN5 han0 han).2) dX0_put_190 (fun H locs hP hD hS => ?_)
          have hP : va_P (dC, dI) vwCl [(h0, .inr (0, [.int fw, .int fh, .int fs, .int fc, .int fl, .int fe, .ref q1_34, .int fi, .int ft, .int fo, .int fa])), (q1_34, .inl (cA_35, tb_rn fi an, .inl (upd (upd (upd (tb_rf fi an af) ((fi * 6) + 0).toNatClampNeg (if a1 < 0 then 0 else a1)) ((fi * 6) + 1).toNatClampNeg (if a2 < 0 then 0 else a2)) ((fi * 6) + 2).toNatClampNeg (if fw < a3 then fw else a3))))] H := hP
          have hD : va_D A [(h0, .inr (0, [.int fw, .int fh, .int fs, .int fc, .int fl, .int fe, .ref q1_34, .int fi, .int ft, .int fo, .int fa])), (q1_34, .inl (cA_35, tb_rn fi an, .inl (upd (upd (upd (tb_rf fi an af) ((fi * 6) + 0).toNatClampNeg (if a1 < 0 then 0 else a1)) ((fi * 6) + 1).toNatClampNeg (if a2 < 0 then 0 else a2)) ((fi * 6) + 2).toNatClampNeg (if fw < a3 then fw else a3))))] := hD
          refine lv_aload_n hx hb dX0_put_191 rfl (lv_at hl 7 rfl) ?_
          refine va_get (D := (dC, dI)) (ci := 0) (v := .ref q1_34) (C := "TileBins") (T := TX0) (N := 11) hx hb hts inX0 hown hK hP 0 rfl rfl 6 (by decide) (hts _ kw_59) (fun _ h9 => h9) rfl dX0_put_192 ?_
          refine lv_iload hx hb dX0_put_195 (lv_at hl 0 rfl) ?_
          refine lv_iconst (v := 3) hx hb dX0_put_197 (by first | rfl | decide) ?_
          refine lv_iadd hx hb dX0_put_198 ?_
          refine lv_iload hx hb dX0_put_199 (lv_at hl 2 rfl) ?_
          refine lv_if_eq (tgt := 209) hx hb dX0_put_201 (by decide) (fun c_39 => absurd c_39 (by decide)) (fun _ => ?_)
          refine lv_iload hx hb dX0_put_204 (lv_at hl 3 rfl) ?_
          refine lv_goto (tgt := 210) hx hb dX0_put_206 (by decide) ?_
          refine va_iast hx hb hK hP hD hS 1 0 rfl rfl (lm_ix (k := 3) hN (by decide) (by decide) (lm_rn hN hNb hN5 han0 han).1 (lm_rn hN hNb hN5 han0 han).2) dX0_put_210 (fun H locs hP hD hS => ?_)
          have hP : va_P (dC, dI) vwCl [(h0, .inr (0, [.int fw, .int fh, .int fs, .int fc, .int fl, .int fe, .ref q1_34, .int fi, .int ft, .int fo, .int fa])), (q1_34, .inl (cA_35, tb_rn fi an, .inl (upd (upd (upd (upd (tb_rf fi an af) ((fi * 6) + 0).toNatClampNeg (if a1 < 0 then 0 else a1)) ((fi * 6) + 1).toNatClampNeg (if a2 < 0 then 0 else a2)) ((fi * 6) + 2).toNatClampNeg (if fw < a3 then fw else a3)) ((fi * 6) + 3).toNatClampNeg (if fh < a4 then fh else a4))))] H := hP
          have hD : va_D A [(h0, .inr (0, [.int fw, .int fh, .int fs, .int fc, .int fl, .int fe, .ref q1_34, .int fi, .int ft, .int fo, .int fa])), (q1_34, .inl (cA_35, tb_rn fi an, .inl (upd (upd (upd (upd (tb_rf fi an af) ((fi * 6) + 0).toNatClampNeg (if a1 < 0 then 0 else a1)) ((fi * 6) + 1).toNatClampNeg (if a2 < 0 then 0 else a2)) ((fi * 6) + 2).toNatClampNeg (if fw < a3 then fw else a3)) ((fi * 6) + 3).toNatClampNeg (if fh < a4 then fh else a4))))] := hD
          refine lv_aload_n hx hb dX0_put_211 rfl (lv_at hl 7 rfl) ?_
          refine va_get (D := (dC, dI)) (ci := 0) (v := .ref q1_34) (C := "TileBins") (T := TX0) (N := 11) hx hb hts inX0 hown hK hP 0 rfl rfl 6 (by decide) (hts _ kw_59) (fun _ h9 => h9) rfl dX0_put_212 ?_
          refine lv_iload hx hb dX0_put_215 (lv_at hl 0 rfl) ?_
          refine lv_iconst (v := 4) hx hb dX0_put_217 (by first | rfl | decide) ?_
          refine lv_iadd hx hb dX0_put_218 ?_
          refine lv_iload hx hb dX0_put_219 (lv_at hl 12 rfl) ?_
          refine va_iast hx hb hK hP hD hS 1 0 rfl rfl (lm_ix (k := 4) hN (by decide) (by decide) (lm_rn hN hNb hN5 han0 han).1 (lm_rn hN hNb hN5 han0 han).2) dX0_put_221 (fun H locs hP hD hS => ?_)
          have hP : va_P (dC, dI) vwCl [(h0, .inr (0, [.int fw, .int fh, .int fs, .int fc, .int fl, .int fe, .ref q1_34, .int fi, .int ft, .int fo, .int fa])), (q1_34, .inl (cA_35, tb_rn fi an, .inl (upd (upd (upd (upd (upd (tb_rf fi an af) ((fi * 6) + 0).toNatClampNeg (if a1 < 0 then 0 else a1)) ((fi * 6) + 1).toNatClampNeg (if a2 < 0 then 0 else a2)) ((fi * 6) + 2).toNatClampNeg (if fw < a3 then fw else a3)) ((fi * 6) + 3).toNatClampNeg (if fh < a4 then fh else a4)) ((fi * 6) + 4).toNatClampNeg a5)))] H := hP
          have hD : va_D A [(h0, .inr (0, [.int fw, .int fh, .int fs, .int fc, .int fl, .int fe, .ref q1_34, .int fi, .int ft, .int fo, .int fa])), (q1_34, .inl (cA_35, tb_rn fi an, .inl (upd (upd (upd (upd (upd (tb_rf fi an af) ((fi * 6) + 0).toNatClampNeg (if a1 < 0 then 0 else a1)) ((fi * 6) + 1).toNatClampNeg (if a2 < 0 then 0 else a2)) ((fi * 6) + 2).toNatClampNeg (if fw < a3 then fw else a3)) ((fi * 6) + 3).toNatClampNeg (if fh < a4 then fh else a4)) ((fi * 6) + 4).toNatClampNeg a5)))] := hD
          refine lv_aload_n hx hb dX0_put_222 rfl (lv_at hl 7 rfl) ?_
          refine va_get (D := (dC, dI)) (ci := 0) (v := .ref q1_34) (C := "TileBins") (T := TX0) (N := 11) hx hb hts inX0 hown hK hP 0 rfl rfl 6 (by decide) (hts _ kw_59) (fun _ h9 => h9) rfl dX0_put_223 ?_
          refine lv_iload hx hb dX0_put_226 (lv_at hl 0 rfl) ?_
          refine lv_iconst (v := 5) hx hb dX0_put_228 (by first | rfl | decide) ?_
          refine lv_iadd hx hb dX0_put_229 ?_
          refine lv_iload hx hb dX0_put_230 (lv_at hl 1 rfl) ?_
          refine va_iast hx hb hK hP hD hS 1 0 rfl rfl (lm_ix (k := 5) hN (by decide) (by decide) (lm_rn hN hNb hN5 han0 han).1 (lm_rn hN hNb hN5 han0 han).2) dX0_put_232 (fun H locs hP hD hS => ?_)
          have hP : va_P (dC, dI) vwCl [(h0, .inr (0, [.int fw, .int fh, .int fs, .int fc, .int fl, .int fe, .ref q1_34, .int fi, .int ft, .int fo, .int fa])), (q1_34, .inl (cA_35, tb_rn fi an, .inl (upd (upd (upd (upd (upd (upd (tb_rf fi an af) ((fi * 6) + 0).toNatClampNeg (if a1 < 0 then 0 else a1)) ((fi * 6) + 1).toNatClampNeg (if a2 < 0 then 0 else a2)) ((fi * 6) + 2).toNatClampNeg (if fw < a3 then fw else a3)) ((fi * 6) + 3).toNatClampNeg (if fh < a4 then fh else a4)) ((fi * 6) + 4).toNatClampNeg a5) ((fi * 6) + 5).toNatClampNeg ((tb_across fs (if a1 < 0 then 0 else a1) (if fw < a3 then fw else a3)) * (tb_across fs (if a2 < 0 then 0 else a2) (if fh < a4 then fh else a4))))))] H := hP
          have hD : va_D A [(h0, .inr (0, [.int fw, .int fh, .int fs, .int fc, .int fl, .int fe, .ref q1_34, .int fi, .int ft, .int fo, .int fa])), (q1_34, .inl (cA_35, tb_rn fi an, .inl (upd (upd (upd (upd (upd (upd (tb_rf fi an af) ((fi * 6) + 0).toNatClampNeg (if a1 < 0 then 0 else a1)) ((fi * 6) + 1).toNatClampNeg (if a2 < 0 then 0 else a2)) ((fi * 6) + 2).toNatClampNeg (if fw < a3 then fw else a3)) ((fi * 6) + 3).toNatClampNeg (if fh < a4 then fh else a4)) ((fi * 6) + 4).toNatClampNeg a5) ((fi * 6) + 5).toNatClampNeg ((tb_across fs (if a1 < 0 then 0 else a1) (if fw < a3 then fw else a3)) * (tb_across fs (if a2 < 0 then 0 else a2) (if fh < a4 then fh else a4))))))] := hD
          refine lv_aload_n hx hb dX0_put_233 rfl (lv_at hl 7 rfl) ?_
          refine lv_dup hx hb dX0_put_234 rfl ?_
          refine va_get (D := (dC, dI)) (ci := 0) (v := .int fi) (C := "TileBins") (T := TX0) (N := 11) hx hb hts inX0 hown hK hP 0 rfl rfl 7 (by decide) (hts _ kw_60) (fun _ h9 => h9) rfl dX0_put_235 ?_
          refine lv_iconst (v := 1) hx hb dX0_put_238 (by first | rfl | decide) ?_
          refine lv_iadd hx hb dX0_put_239 ?_
          refine va_put (D := (dC, dI)) (ci := 0) (v := .int (fi + 1)) (ty := .int) (C := "TileBins") (T := TX0) (N := 11) hx hb hts inX0 tyX0 tyX0_ok nmX0 hown hK hP hD hS 0 rfl rfl 7 (by decide) (hts _ kw_60) (fun _ h9 => h9) rfl (by decide +kernel) rfl rfl (Nat.le_of_ble_eq_true rfl) dX0_put_240 (fun H locs hP hD hS => ?_)
          have hP : va_P (dC, dI) vwCl [(h0, .inr (0, [.int fw, .int fh, .int fs, .int fc, .int fl, .int fe, .ref q1_34, .int (fi + 1), .int ft, .int fo, .int fa])), (q1_34, .inl (cA_35, tb_rn fi an, .inl (upd (upd (upd (upd (upd (upd (tb_rf fi an af) ((fi * 6) + 0).toNatClampNeg (if a1 < 0 then 0 else a1)) ((fi * 6) + 1).toNatClampNeg (if a2 < 0 then 0 else a2)) ((fi * 6) + 2).toNatClampNeg (if fw < a3 then fw else a3)) ((fi * 6) + 3).toNatClampNeg (if fh < a4 then fh else a4)) ((fi * 6) + 4).toNatClampNeg a5) ((fi * 6) + 5).toNatClampNeg ((tb_across fs (if a1 < 0 then 0 else a1) (if fw < a3 then fw else a3)) * (tb_across fs (if a2 < 0 then 0 else a2) (if fh < a4 then fh else a4))))))] H := hP
          have hD : va_D A [(h0, .inr (0, [.int fw, .int fh, .int fs, .int fc, .int fl, .int fe, .ref q1_34, .int (fi + 1), .int ft, .int fo, .int fa])), (q1_34, .inl (cA_35, tb_rn fi an, .inl (upd (upd (upd (upd (upd (upd (tb_rf fi an af) ((fi * 6) + 0).toNatClampNeg (if a1 < 0 then 0 else a1)) ((fi * 6) + 1).toNatClampNeg (if a2 < 0 then 0 else a2)) ((fi * 6) + 2).toNatClampNeg (if fw < a3 then fw else a3)) ((fi * 6) + 3).toNatClampNeg (if fh < a4 then fh else a4)) ((fi * 6) + 4).toNatClampNeg a5) ((fi * 6) + 5).toNatClampNeg ((tb_across fs (if a1 < 0 then 0 else a1) (if fw < a3 then fw else a3)) * (tb_across fs (if a2 < 0 then 0 else a2) (if fh < a4 then fh else a4))))))] := hD
          refine lv_aload_n hx hb dX0_put_243 rfl (lv_at hl 7 rfl) ?_
          refine lv_dup hx hb dX0_put_244 rfl ?_
          refine va_get (D := (dC, dI)) (ci := 0) (v := .int ft) (C := "TileBins") (T := TX0) (N := 11) hx hb hts inX0 hown hK hP 0 rfl rfl 8 (by decide) (hts _ kw_61) (fun _ h9 => h9) rfl dX0_put_245 ?_
          refine lv_iload hx hb dX0_put_248 (lv_at hl 1 rfl) ?_
          refine lv_iadd hx hb dX0_put_250 ?_
          refine va_put (D := (dC, dI)) (ci := 0) (v := .int (ft + ((tb_across fs (if a1 < 0 then 0 else a1) (if fw < a3 then fw else a3)) * (tb_across fs (if a2 < 0 then 0 else a2) (if fh < a4 then fh else a4))))) (ty := .int) (C := "TileBins") (T := TX0) (N := 11) hx hb hts inX0 tyX0 tyX0_ok nmX0 hown hK hP hD hS 0 rfl rfl 8 (by decide) (hts _ kw_61) (fun _ h9 => h9) rfl (by decide +kernel) rfl rfl (Nat.le_of_ble_eq_true rfl) dX0_put_251 (fun H locs hP hD hS => ?_)
          have hP : va_P (dC, dI) vwCl [(h0, .inr (0, [.int fw, .int fh, .int fs, .int fc, .int fl, .int fe, .ref q1_34, .int (fi + 1), .int (ft + ((tb_across fs (if a1 < 0 then 0 else a1) (if fw < a3 then fw else a3)) * (tb_across fs (if a2 < 0 then 0 else a2) (if fh < a4 then fh else a4)))), .int fo, .int fa])), (q1_34, .inl (cA_35, tb_rn fi an, .inl (upd (upd (upd (upd (upd (upd (tb_rf fi an af) ((fi * 6) + 0).toNatClampNeg (if a1 < 0 then 0 else a1)) ((fi * 6) + 1).toNatClampNeg (if a2 < 0 then 0 else a2)) ((fi * 6) + 2).toNatClampNeg (if fw < a3 then fw else a3)) ((fi * 6) + 3).toNatClampNeg (if fh < a4 then fh else a4)) ((fi * 6) + 4).toNatClampNeg a5) ((fi * 6) + 5).toNatClampNeg ((tb_across fs (if a1 < 0 then 0 else a1) (if fw < a3 then fw else a3)) * (tb_across fs (if a2 < 0 then 0 else a2) (if fh < a4 then fh else a4))))))] H := hP
          have hD : va_D A [(h0, .inr (0, [.int fw, .int fh, .int fs, .int fc, .int fl, .int fe, .ref q1_34, .int (fi + 1), .int (ft + ((tb_across fs (if a1 < 0 then 0 else a1) (if fw < a3 then fw else a3)) * (tb_across fs (if a2 < 0 then 0 else a2) (if fh < a4 then fh else a4)))), .int fo, .int fa])), (q1_34, .inl (cA_35, tb_rn fi an, .inl (upd (upd (upd (upd (upd (upd (tb_rf fi an af) ((fi * 6) + 0).toNatClampNeg (if a1 < 0 then 0 else a1)) ((fi * 6) + 1).toNatClampNeg (if a2 < 0 then 0 else a2)) ((fi * 6) + 2).toNatClampNeg (if fw < a3 then fw else a3)) ((fi * 6) + 3).toNatClampNeg (if fh < a4 then fh else a4)) ((fi * 6) + 4).toNatClampNeg a5) ((fi * 6) + 5).toNatClampNeg ((tb_across fs (if a1 < 0 then 0 else a1) (if fw < a3 then fw else a3)) * (tb_across fs (if a2 < 0 then 0 else a2) (if fh < a4 then fh else a4))))))] := hD
          refine lv_aload_n hx hb dX0_put_254 rfl (lv_at hl 7 rfl) ?_
          refine va_get (D := (dC, dI)) (ci := 0) (v := .int (fi + 1)) (C := "TileBins") (T := TX0) (N := 11) hx hb hts inX0 hown hK hP 0 rfl rfl 7 (by decide) (hts _ kw_60) (fun _ h9 => h9) rfl dX0_put_255 ?_
          refine lv_iconst (v := 1) hx hb dX0_put_258 (by first | rfl | decide) ?_
          refine lv_isub hx hb dX0_put_259 ?_
          refine vx_ret ?_
          exact W.iret (v := (fi + 1) - 1) hx hb hr (fun t ht hW => ⟨⟨_, (fw, fh, fs, fc, fl, fe, fi + 1, ft + ((tb_across fs (if a1 < 0 then 0 else a1) (if fw < a3 then fw else a3)) * (tb_across fs (if a2 < 0 then 0 else a2) (if fh < a4 then fh else a4))), fo, fa, tb_rn fi an, upd (upd (upd (upd (upd (upd (tb_rf fi an af) ((fi * 6) + 0).toNatClampNeg (if a1 < 0 then 0 else a1)) ((fi * 6) + 1).toNatClampNeg (if a2 < 0 then 0 else a2)) ((fi * 6) + 2).toNatClampNeg (if fw < a3 then fw else a3)) ((fi * 6) + 3).toNatClampNeg (if fh < a4 then fh else a4)) ((fi * 6) + 4).toNatClampNeg a5) ((fi * 6) + 5).toNatClampNeg ((tb_across fs (if a1 < 0 then 0 else a1) (if fw < a3 then fw else a3)) * (tb_across fs (if a2 < 0 then 0 else a2) (if fh < a4 then fh else a4)))), rfl, (show ((0, ((fi + 1) - 1 : Int32), (fw, fh, fs, fc, fl, fe, fi + 1, ft + ((tb_across fs (if a1 < 0 then 0 else a1) (if fw < a3 then fw else a3)) * (tb_across fs (if a2 < 0 then 0 else a2) (if fh < a4 then fh else a4))), fo, fa, tb_rn fi an, upd (upd (upd (upd (upd (upd (tb_rf fi an af) ((fi * 6) + 0).toNatClampNeg (if a1 < 0 then 0 else a1)) ((fi * 6) + 1).toNatClampNeg (if a2 < 0 then 0 else a2)) ((fi * 6) + 2).toNatClampNeg (if fw < a3 then fw else a3)) ((fi * 6) + 3).toNatClampNeg (if fh < a4 then fh else a4)) ((fi * 6) + 4).toNatClampNeg a5) ((fi * 6) + 5).toNatClampNeg ((tb_across fs (if a1 < 0 then 0 else a1) (if fw < a3 then fw else a3)) * (tb_across fs (if a2 < 0 then 0 else a2) (if fh < a4 then fh else a4))))) : Nat × Int32 × TBA) = tb_put fw fh fs fc fl fe fi ft fo fa an af a1 a2 a3 a4 a5 by unfold tb_put; rw [if_neg c_1, if_neg c_15, if_neg c_30, if_pos c_33]), q1_34, cA_35, by rw [ht]; exact hP, va_K.moved hW.alike hK, hD⟩, hS.F ht⟩) hS.2.2 dX0_put_260
        · obtain ⟨sa_40, hsa_41⟩ := hZ.str (70, "the field is full") (by decide +kernel)
          exact vx_throwS (rest := []) (mc := 1) (ms := 6144) hx hb hl9 (own := "TileBins") (cls := "java/lang/IllegalStateException") (text := "the field is full") (names := ["java/lang/RuntimeException", "java/lang/Exception"]) hown (by decide +kernel) (by decide +kernel) (hts _ kw_194) (hts _ kw_29) hsa_41 (vx_hat (fun w hw => hts w (hx_Sa w hw)) hx_Sb hZ.bad) hx_Sc hZ.u hZ.n hS (hl.1.trans hml.symm) dX0_put_108 dX0_put_111 dX0_put_112 dX0_put_114 dX0_put_117 (fun x hx => (hEx x hx).elim) (Nat.le_of_ble_eq_true rfl) (Nat.le_of_ble_eq_true rfl) (Nat.le_of_ble_eq_true rfl) (Nat.le_of_ble_eq_true rfl) hlocks (fun t ha hz hk => ⟨(1, (fw, fh, fs, fc, fl, fe, fi, ft, fo, fa, an, af)), ⟨(show ((1 : Nat), (0 : Int32), ((fw, fh, fs, fc, fl, fe, fi, ft, fo, fa, an, af) : TBA)) = tb_put fw fh fs fc fl fe fi ft fo fa an af a1 a2 a3 a4 a5 by unfold tb_put; rw [if_neg c_1, if_neg c_15, if_neg c_30, if_neg c_33]), rfl⟩, ⟨rfl, q1, cA, ro_kept hP hk, va_K.moved ha hK, hD⟩, th_F hS hz hk⟩) hS.2.2 (Nat.le_of_ble_eq_true rfl) (Nat.le_of_ble_eq_true rfl)
def tb_open (fw fh fs fc fl fe fi ft fo fa : Int32) (an : Nat) (af : Nat → Int32) (a1 : Int32) : Nat × Int32 × TBA := (if (tb_isTile fc fl a1) = 0 then (1, 0, (fw, fh, fs, fc, fl, fe, fi, ft, fo, fa, an, af)) else (0, tb_many fs fc fi af a1, (fw, fh, fs, fc, fl, fe, fi, ft, a1, 0, an, af)))
set_option maxHeartbeats 4000000 in
set_option maxRecDepth 100000 in
theorem mtX0_open (l : Launch) (hl9 : l.stackTraces = false) (dC : Nat → ClassId) (dI : Nat → Nat → Nat) (h0 q1 : Nat) (cA : ClassId) (fw fh fs fc fl fe fi ft fo fa : Int32) (an : Nat) (af : Nat → Int32) (sz : Nat) (a1 : Int32) (N : Nat) (hN : fi = nI N) (hNb : N * 6 ≤ an) (han : an < 2 ^ 31) : vx_Met l yX0_open wsX0_open ({ frames := 6, cells := 1, slots := 6, locals := 91 }) (va_Pc [.ref h0, .int a1] (zz_P (dC, dI) vwCl [(h0, .inr (0, [.int fw, .int fh, .int fs, .int fc, .int fl, .int fe, .ref q1, .int fi, .int ft, .int fo, .int fa])), (q1, .inl (cA, an, .inl af))] [(cA, .int)] sz)) (va_Qi (fun (r : Int32) (u : TBA) => (0, r, u) = tb_open fw fh fs fc fl fe fi ft fo fa an af a1) (tbAt (dC, dI) (va_A [(h0, .inr (0, [.int fw, .int fh, .int fs, .int fc, .int fl, .int fe, .ref q1, .int fi, .int ft, .int fo, .int fa])), (q1, .inl (cA, an, .inl af))] sz) h0) (va_A [(h0, .inr (0, [.int fw, .int fh, .int fs, .int fc, .int fl, .int fe, .ref q1, .int fi, .int ft, .int fo, .int fa])), (q1, .inl (cA, an, .inl af))] sz)) (vx_X (fun (u : Nat × TBA) => (u.1, (0 : Int32), u.2) = tb_open fw fh fs fc fl fe fi ft fo fa an af a1 ∧ (u.1 = 1)) (fun E u t => E = tb_exa u.1 ∧ tbAt (dC, dI) (va_A [(h0, .inr (0, [.int fw, .int fh, .int fs, .int fc, .int fl, .int fe, .ref q1, .int fi, .int ft, .int fo, .int fa])), (q1, .inl (cA, an, .inl af))] sz) h0 u.2 t) (va_A [(h0, .inr (0, [.int fw, .int fh, .int fs, .int fc, .int fl, .int fe, .ref q1, .int fi, .int ft, .int fo, .int fa])), (q1, .inl (cA, an, .inl af))] sz)) 1 6 (va_A [(h0, .inr (0, [.int fw, .int fh, .int fs, .int fc, .int fl, .int fe, .ref q1, .int fi, .int ft, .int fo, .int fa])), (q1, .inl (cA, an, .inl af))] sz) := by
  refine vx_ofW (cc := cX0_open) (maxL := 2) (ret := (some .int)) (by decide) rfl ?_
  intro p e s m args below meth c s₁ B hml hEx hv
  obtain ⟨rfl, ⟨hsz, hP, hK, hD0⟩, hZ⟩ := hv
  have hx := B.exec
  have hb := B.bytes
  have hr := B.returns
  have hts : ∀ w ∈ gb, w.before _ s = true := fun w h => atoms_spec (ws := wsX0_open) B.pre w (List.mem_cons_of_mem _ h)
  have hown : s.vm.findClass "TileBins" = some m.cls := findClass_of_methodNamed B.named
  have hlocks := B.notSynchronized
  subst hsz
  have hD := hD0.self (sz := s.heap.size)
  generalize hAe : va_A [(h0, .inr (0, [.int fw, .int fh, .int fs, .int fc, .int fl, .int fe, .ref q1, .int fi, .int ft, .int fo, .int fa])), (q1, .inl (cA, an, .inl af))] s.heap.size = A at hD hZ ⊢
  have hA : ∀ q : Nat, s.heap.size ≤ q → A q := fun q h => by rw [← hAe]; exact Or.inr h
  have hS : va_S A s.heap s.heap [] := va_S.rf
  have hP : va_P (dC, dI) vwCl [(h0, .inr (0, [.int fw, .int fh, .int fs, .int fc, .int fl, .int fe, .ref q1, .int fi, .int ft, .int fo, .int fa])), (q1, .inl (cA, an, .inl af))] s.heap := hP
  have hl := lv_entry ([.ref h0, .int a1]) (n := 2) (Nat.le_of_ble_eq_true rfl)
  rw [lg_entry_eq]
  generalize (lg_sl ([.ref h0, .int a1]) ++ List.replicate (2 - (lg_sl ([.ref h0, .int a1])).length) Slot.unset).toArray = ls at hl ⊢
  have hl : lv_has ls 2 [(0, .ref h0), (1, .int a1)] := hl
  refine lv_aload_n hx hb dX0_open_0 rfl (lv_at hl 0 rfl) ?_
  refine lv_iload_n hx hb dX0_open_1 rfl (lv_at hl 1 rfl) ?_
  refine ro_calli (va_runV (As := [.int a1]) (rest := []) ⟨hx, hb, hml, hown, hts⟩ (mtX0_isTile l dC dI h0 q1 cA fw fh fs fc fl fe fi ft fo fa an af s.heap.size a1) (cwV 1 hts (gb_v kw_235 kw_237 kw_6 kw_22 kw_238) rfl rfl rfl (by decide +kernel) ⟨Nat.le_of_ble_eq_true rfl, Nat.le_of_ble_eq_true rfl⟩) ⟨ro_P.blind, va_recv hK hP (ci := 0) (q0 := 0) rfl rfl, ro_P.at hP hK⟩ rfl rfl hl.1 rfl (lv_room (Nat.le_of_ble_eq_true rfl)) dX0_open_2 ⟨Nat.le_of_ble_eq_true rfl, Nat.le_of_ble_eq_true rfl⟩) hP hS hA (fun H locs hP hS hz hk => ?_)
  refine lv_if_ne (tgt := 18) hx hb dX0_open_5 (by decide) (fun c_1 => ?_) (fun c_1 => ?_)
  · refine lv_aload_n hx hb dX0_open_18 rfl (lv_at hl 0 rfl) ?_
    refine lv_iload_n hx hb dX0_open_19 rfl (lv_at hl 1 rfl) ?_
    refine va_put (D := (dC, dI)) (ci := 0) (v := .int a1) (ty := .int) (C := "TileBins") (T := TX0) (N := 11) hx hb hts inX0 tyX0 tyX0_ok nmX0 hown hK hP hD hS 0 rfl rfl 9 (by decide) (hts _ kw_62) (fun _ h9 => h9) rfl (by decide +kernel) rfl rfl (Nat.le_of_ble_eq_true rfl) dX0_open_20 (fun H locs hP hD hS => ?_)
    have hP : va_P (dC, dI) vwCl [(h0, .inr (0, [.int fw, .int fh, .int fs, .int fc, .int fl, .int fe, .ref q1, .int fi, .int ft, .int a1, .int fa])), (q1, .inl (cA, an, .inl af))] H := hP
    have hD : va_D A [(h0, .inr (0, [.int fw, .int fh, .int fs, .int fc, .int fl, .int fe, .ref q1, .int fi, .int ft, .int a1, .int fa])), (q1, .inl (cA, an, .inl af))] := hD
    refine lv_aload_n hx hb dX0_open_23 rfl (lv_at hl 0 rfl) ?_
    refine lv_iconst (v := 0) hx hb dX0_open_24 (by first | rfl | decide) ?_
    refine va_put (D := (dC, dI)) (ci := 0) (v := .int 0) (ty := .int) (C := "TileBins") (T := TX0) (N := 11) hx hb hts inX0 tyX0 tyX0_ok nmX0 hown hK hP hD hS 0 rfl rfl 10 (by decide) (hts _ kw_63) (fun _ h9 => h9) rfl (by decide +kernel) rfl rfl (Nat.le_of_ble_eq_true rfl) dX0_open_25 (fun H locs hP hD hS => ?_)
    have hP : va_P (dC, dI) vwCl [(h0, .inr (0, [.int fw, .int fh, .int fs, .int fc, .int fl, .int fe, .ref q1, .int fi, .int ft, .int a1, .int 0])), (q1, .inl (cA, an, .inl af))] H := hP
    have hD : va_D A [(h0, .inr (0, [.int fw, .int fh, .int fs, .int fc, .int fl, .int fe, .ref q1, .int fi, .int ft, .int a1, .int 0])), (q1, .inl (cA, an, .inl af))] := hD
    refine lv_aload_n hx hb dX0_open_28 rfl (lv_at hl 0 rfl) ?_
    refine lv_iload_n hx hb dX0_open_29 rfl (lv_at hl 1 rfl) ?_
    refine ro_calli (va_runV (As := [.int a1]) (rest := []) ⟨hx, hb, hml, hown, hts⟩ (mtX0_itemsTouching l dC dI h0 q1 cA fw fh fs fc fl fe fi ft a1 0 an af H.size a1 N hN hNb han) (cwV 1 hts (gb_v kw_240 kw_242 kw_7 kw_22 kw_243) rfl rfl rfl (by decide +kernel) ⟨Nat.le_of_ble_eq_true rfl, Nat.le_of_ble_eq_true rfl⟩) ⟨ro_P.blind, va_recv hK hP (ci := 0) (q0 := 0) rfl rfl, ro_P.at hP hK⟩ rfl rfl hl.1 rfl (lv_room (Nat.le_of_ble_eq_true rfl)) dX0_open_30 ⟨Nat.le_of_ble_eq_true rfl, Nat.le_of_ble_eq_true rfl⟩) hP hS hA (fun H locs hP hS hz hk => ?_)
    refine W.widen (k := 1) (n := 6) (Nat.le_of_ble_eq_true rfl) (Nat.le_of_ble_eq_true rfl) ?_
    refine vx_ret ?_
    exact W.iret (v := tb_many fs fc fi af a1) hx hb hr (fun t ht hW => ⟨⟨_, (fw, fh, fs, fc, fl, fe, fi, ft, a1, 0, an, af), rfl, (show ((0, (tb_many fs fc fi af a1 : Int32), (fw, fh, fs, fc, fl, fe, fi, ft, a1, 0, an, af)) : Nat × Int32 × TBA) = tb_open fw fh fs fc fl fe fi ft fo fa an af a1 by unfold tb_open; rw [if_neg c_1]), q1, cA, by rw [ht]; exact hP, va_K.moved hW.alike hK, hD⟩, hS.F ht⟩) hS.2.2 dX0_open_33
  · obtain ⟨sa_2, hsa_3⟩ := hZ.str (83, "there is no such tile") (by decide +kernel)
    exact vx_throwS (rest := []) (mc := 1) (ms := 6) hx hb hl9 (own := "TileBins") (cls := "java/lang/IllegalArgumentException") (text := "there is no such tile") (names := ["java/lang/RuntimeException", "java/lang/Exception"]) hown (by decide +kernel) (by decide +kernel) (hts _ kw_103) (hts _ kw_27) hsa_3 (vx_hat (fun w hw => hts w (hx_Aa w hw)) hx_Ab hZ.bad) hx_Ac hZ.u hZ.n hS (hl.1.trans hml.symm) dX0_open_8 dX0_open_11 dX0_open_12 dX0_open_14 dX0_open_17 (fun x hx => (hEx x hx).elim) (Nat.le_of_ble_eq_true rfl) (Nat.le_of_ble_eq_true rfl) (Nat.le_of_ble_eq_true rfl) (Nat.le_of_ble_eq_true rfl) hlocks (fun t ha hz hk => ⟨(1, (fw, fh, fs, fc, fl, fe, fi, ft, fo, fa, an, af)), ⟨(show ((1 : Nat), (0 : Int32), ((fw, fh, fs, fc, fl, fe, fi, ft, fo, fa, an, af) : TBA)) = tb_open fw fh fs fc fl fe fi ft fo fa an af a1 by unfold tb_open; rw [if_pos c_1]), rfl⟩, ⟨rfl, q1, cA, ro_kept hP hk, va_K.moved ha hK, hD⟩, th_F hS hz hk⟩) hS.2.2 (Nat.le_of_ble_eq_true rfl) (Nat.le_of_ble_eq_true rfl)
def tb_next (fw fh fs fc fl fe fi ft fo fa : Int32) (an : Nat) (af : Nat → Int32) : Nat × Int32 × TBA := (if fo = (-1) then (1, 0, (fw, fh, fs, fc, fl, fe, fi, ft, fo, fa, an, af)) else (if (tb_find fs fc fi af fo fa) = (-1) then (0, tb_find fs fc fi af fo fa, (fw, fh, fs, fc, fl, fe, fi, ft, fo, fi, an, af)) else (0, tb_find fs fc fi af fo fa, (fw, fh, fs, fc, fl, fe, fi, ft, fo, (tb_find fs fc fi af fo fa) + 1, an, af))))
set_option maxHeartbeats 4000000 in
set_option maxRecDepth 100000 in
theorem mtX0_next (l : Launch) (hl9 : l.stackTraces = false) (dC : Nat → ClassId) (dI : Nat → Nat → Nat) (h0 q1 : Nat) (cA : ClassId) (fw fh fs fc fl fe fi ft fo fa : Int32) (an : Nat) (af : Nat → Int32) (sz : Nat) (N : Nat) (hN : fi = nI N) (hNb : N * 6 ≤ an) (han : an < 2 ^ 31) (a0 : Nat) (ha0 : fa = nI a0) (ha0N : a0 ≤ N) : vx_Met l yX0_next wsX0_next ({ frames := 6, cells := 1, slots := 6, locals := 91 }) (va_Pc [.ref h0] (zz_P (dC, dI) vwCl [(h0, .inr (0, [.int fw, .int fh, .int fs, .int fc, .int fl, .int fe, .ref q1, .int fi, .int ft, .int fo, .int fa])), (q1, .inl (cA, an, .inl af))] [(cA, .int)] sz)) (va_Qi (fun (r : Int32) (u : TBA) => (0, r, u) = tb_next fw fh fs fc fl fe fi ft fo fa an af) (tbAt (dC, dI) (va_A [(h0, .inr (0, [.int fw, .int fh, .int fs, .int fc, .int fl, .int fe, .ref q1, .int fi, .int ft, .int fo, .int fa])), (q1, .inl (cA, an, .inl af))] sz) h0) (va_A [(h0, .inr (0, [.int fw, .int fh, .int fs, .int fc, .int fl, .int fe, .ref q1, .int fi, .int ft, .int fo, .int fa])), (q1, .inl (cA, an, .inl af))] sz)) (vx_X (fun (u : Nat × TBA) => (u.1, (0 : Int32), u.2) = tb_next fw fh fs fc fl fe fi ft fo fa an af ∧ (u.1 = 1)) (fun E u t => E = tb_exs u.1 ∧ tbAt (dC, dI) (va_A [(h0, .inr (0, [.int fw, .int fh, .int fs, .int fc, .int fl, .int fe, .ref q1, .int fi, .int ft, .int fo, .int fa])), (q1, .inl (cA, an, .inl af))] sz) h0 u.2 t) (va_A [(h0, .inr (0, [.int fw, .int fh, .int fs, .int fc, .int fl, .int fe, .ref q1, .int fi, .int ft, .int fo, .int fa])), (q1, .inl (cA, an, .inl af))] sz)) 1 6 (va_A [(h0, .inr (0, [.int fw, .int fh, .int fs, .int fc, .int fl, .int fe, .ref q1, .int fi, .int ft, .int fo, .int fa])), (q1, .inl (cA, an, .inl af))] sz) := by
  refine vx_ofW (cc := cX0_next) (maxL := 2) (ret := (some .int)) (by decide) rfl ?_
  intro p e s m args below meth c s₁ B hml hEx hv
  obtain ⟨rfl, ⟨hsz, hP, hK, hD0⟩, hZ⟩ := hv
  have hx := B.exec
  have hb := B.bytes
  have hr := B.returns
  have hts : ∀ w ∈ gb, w.before _ s = true := fun w h => atoms_spec (ws := wsX0_next) B.pre w (List.mem_cons_of_mem _ h)
  have hown : s.vm.findClass "TileBins" = some m.cls := findClass_of_methodNamed B.named
  have hlocks := B.notSynchronized
  subst hsz
  have hD := hD0.self (sz := s.heap.size)
  generalize hAe : va_A [(h0, .inr (0, [.int fw, .int fh, .int fs, .int fc, .int fl, .int fe, .ref q1, .int fi, .int ft, .int fo, .int fa])), (q1, .inl (cA, an, .inl af))] s.heap.size = A at hD hZ ⊢
  have hA : ∀ q : Nat, s.heap.size ≤ q → A q := fun q h => by rw [← hAe]; exact Or.inr h
  have hS : va_S A s.heap s.heap [] := va_S.rf
  have hP : va_P (dC, dI) vwCl [(h0, .inr (0, [.int fw, .int fh, .int fs, .int fc, .int fl, .int fe, .ref q1, .int fi, .int ft, .int fo, .int fa])), (q1, .inl (cA, an, .inl af))] s.heap := hP
  have hl := lv_entry ([.ref h0]) (n := 2) (Nat.le_of_ble_eq_true rfl)
  rw [lg_entry_eq]
  generalize (lg_sl ([.ref h0]) ++ List.replicate (2 - (lg_sl ([.ref h0])).length) Slot.unset).toArray = ls at hl ⊢
  have hl : lv_has ls 2 [(0, .ref h0)] := hl
  refine lv_aload_n hx hb dX0_next_0 rfl (lv_at hl 0 rfl) ?_
  refine va_get (D := (dC, dI)) (ci := 0) (v := .int fo) (C := "TileBins") (T := TX0) (N := 11) hx hb hts inX0 hown hK hP 0 rfl rfl 9 (by decide) (hts _ kw_62) (fun _ h9 => h9) rfl dX0_next_1 ?_
  refine lv_iconst (v := (-1)) hx hb dX0_next_4 (by first | rfl | decide) ?_
  refine lv_icmp_ne (tgt := 18) hx hb dX0_next_5 (by decide) (fun c_1 => ?_) (fun c_1 => ?_)
  · refine lv_aload_n hx hb dX0_next_18 rfl (lv_at hl 0 rfl) ?_
    refine lv_aload_n hx hb dX0_next_19 rfl (lv_at hl 0 rfl) ?_
    refine va_get (D := (dC, dI)) (ci := 0) (v := .int fo) (C := "TileBins") (T := TX0) (N := 11) hx hb hts inX0 hown hK hP 0 rfl rfl 9 (by decide) (hts _ kw_62) (fun _ h9 => h9) rfl dX0_next_20 ?_
    refine lv_aload_n hx hb dX0_next_23 rfl (lv_at hl 0 rfl) ?_
    refine va_get (D := (dC, dI)) (ci := 0) (v := .int fa) (C := "TileBins") (T := TX0) (N := 11) hx hb hts inX0 hown hK hP 0 rfl rfl 10 (by decide) (hts _ kw_63) (fun _ h9 => h9) rfl dX0_next_24 ?_
    refine ro_calli (va_runV (As := [.int fo, .int fa]) (rest := []) ⟨hx, hb, hml, hown, hts⟩ (mtX0_firstTouching l dC dI h0 q1 cA fw fh fs fc fl fe fi ft fo fa an af s.heap.size fo fa N hN hNb han a0 ha0 ha0N) (cwV 2 hts (gb_v kw_268 kw_270 kw_12 kw_22 kw_271) rfl rfl rfl (by decide +kernel) ⟨Nat.le_of_ble_eq_true rfl, Nat.le_of_ble_eq_true rfl⟩) ⟨ro_P.blind, va_recv hK hP (ci := 0) (q0 := 0) rfl rfl, ro_P.at hP hK⟩ rfl rfl hl.1 rfl (lv_room (Nat.le_of_ble_eq_true rfl)) dX0_next_27 ⟨Nat.le_of_ble_eq_true rfl, Nat.le_of_ble_eq_true rfl⟩) hP hS hA (fun H locs hP hS hz hk => ?_)
    refine lv_istore_n (lv' := [(1, .int (tb_find fs fc fi af fo fa)), (0, .ref h0)]) hx hb dX0_next_30 rfl hl (by decide) rfl (fun ls hl => ?_)
    refine lv_aload_n hx hb dX0_next_31 rfl (lv_at hl 1 rfl) ?_
    refine lv_iload_n hx hb dX0_next_32 rfl (lv_at hl 0 rfl) ?_
    refine lv_iconst (v := (-1)) hx hb dX0_next_33 (by first | rfl | decide) ?_
    refine lv_icmp_ne (tgt := 44) hx hb dX0_next_34 (by decide) (fun c_2 => ?_) (fun c_2 => ?_)
    · refine lv_iload_n hx hb dX0_next_44 rfl (lv_at hl 0 rfl) ?_
      refine lv_iconst (v := 1) hx hb dX0_next_45 (by first | rfl | decide) ?_
      refine lv_iadd hx hb dX0_next_46 ?_
      refine va_put (D := (dC, dI)) (ci := 0) (v := .int ((tb_find fs fc fi af fo fa) + 1)) (ty := .int) (C := "TileBins") (T := TX0) (N := 11) hx hb hts inX0 tyX0 tyX0_ok nmX0 hown hK hP hD hS 0 rfl rfl 10 (by decide) (hts _ kw_63) (fun _ h9 => h9) rfl (by decide +kernel) rfl rfl (Nat.le_of_ble_eq_true rfl) dX0_next_47 (fun H locs hP hD hS => ?_)
      have hP : va_P (dC, dI) vwCl [(h0, .inr (0, [.int fw, .int fh, .int fs, .int fc, .int fl, .int fe, .ref q1, .int fi, .int ft, .int fo, .int ((tb_find fs fc fi af fo fa) + 1)])), (q1, .inl (cA, an, .inl af))] H := hP
      have hD : va_D A [(h0, .inr (0, [.int fw, .int fh, .int fs, .int fc, .int fl, .int fe, .ref q1, .int fi, .int ft, .int fo, .int ((tb_find fs fc fi af fo fa) + 1)])), (q1, .inl (cA, an, .inl af))] := hD
      refine lv_iload_n hx hb dX0_next_50 rfl (lv_at hl 0 rfl) ?_
      refine W.widen (k := 1) (n := 6) (Nat.le_of_ble_eq_true rfl) (Nat.le_of_ble_eq_true rfl) ?_
      refine vx_ret ?_
      exact W.iret (v := tb_find fs fc fi af fo fa) hx hb hr (fun t ht hW => ⟨⟨_, (fw, fh, fs, fc, fl, fe, fi, ft, fo, (tb_find fs fc fi af fo fa) + 1, an, af), rfl, (show ((0, (tb_find fs fc fi af fo fa : Int32), (fw, fh, fs, fc, fl, fe, fi, ft, fo, (tb_find fs fc fi af fo fa) + 1, an, af)) : Nat × Int32 × TBA) = tb_next fw fh fs fc fl fe fi ft fo fa an af by unfold tb_next; rw [if_neg c_1, if_neg c_2]), q1, cA, by rw [ht]; exact hP, va_K.moved hW.alike hK, hD⟩, hS.F ht⟩) hS.2.2 dX0_next_51
    · refine lv_aload_n hx hb dX0_next_37 rfl (lv_at hl 1 rfl) ?_
      refine va_get (D := (dC, dI)) (ci := 0) (v := .int fi) (C := "TileBins") (T := TX0) (N := 11) hx hb hts inX0 hown hK hP 0 rfl rfl 7 (by decide) (hts _ kw_60) (fun _ h9 => h9) rfl dX0_next_38 ?_
      refine lv_goto (tgt := 47) hx hb dX0_next_41 (by decide) ?_
      refine va_put (D := (dC, dI)) (ci := 0) (v := .int fi) (ty := .int) (C := "TileBins") (T := TX0) (N := 11) hx hb hts inX0 tyX0 tyX0_ok nmX0 hown hK hP hD hS 0 rfl rfl 10 (by decide) (hts _ kw_63) (fun _ h9 => h9) rfl (by decide +kernel) rfl rfl (Nat.le_of_ble_eq_true rfl) dX0_next_47 (fun H locs hP hD hS => ?_)
      have hP : va_P (dC, dI) vwCl [(h0, .inr (0, [.int fw, .int fh, .int fs, .int fc, .int fl, .int fe, .ref q1, .int fi, .int ft, .int fo, .int fi])), (q1, .inl (cA, an, .inl af))] H := hP
      have hD : va_D A [(h0, .inr (0, [.int fw, .int fh, .int fs, .int fc, .int fl, .int fe, .ref q1, .int fi, .int ft, .int fo, .int fi])), (q1, .inl (cA, an, .inl af))] := hD
      refine lv_iload_n hx hb dX0_next_50 rfl (lv_at hl 0 rfl) ?_
      refine W.widen (k := 1) (n := 6) (Nat.le_of_ble_eq_true rfl) (Nat.le_of_ble_eq_true rfl) ?_
      refine vx_ret ?_
      exact W.iret (v := tb_find fs fc fi af fo fa) hx hb hr (fun t ht hW => ⟨⟨_, (fw, fh, fs, fc, fl, fe, fi, ft, fo, fi, an, af), rfl, (show ((0, (tb_find fs fc fi af fo fa : Int32), (fw, fh, fs, fc, fl, fe, fi, ft, fo, fi, an, af)) : Nat × Int32 × TBA) = tb_next fw fh fs fc fl fe fi ft fo fa an af by unfold tb_next; rw [if_neg c_1, if_pos c_2]), q1, cA, by rw [ht]; exact hP, va_K.moved hW.alike hK, hD⟩, hS.F ht⟩) hS.2.2 dX0_next_51
  · obtain ⟨sa_3, hsa_4⟩ := hZ.str (94, "no tile is open") (by decide +kernel)
    exact vx_throwS (rest := []) (mc := 1) (ms := 6) hx hb hl9 (own := "TileBins") (cls := "java/lang/IllegalStateException") (text := "no tile is open") (names := ["java/lang/RuntimeException", "java/lang/Exception"]) hown (by decide +kernel) (by decide +kernel) (hts _ kw_194) (hts _ kw_29) hsa_4 (vx_hat (fun w hw => hts w (hx_Sa w hw)) hx_Sb hZ.bad) hx_Sc hZ.u hZ.n hS (hl.1.trans hml.symm) dX0_next_8 dX0_next_11 dX0_next_12 dX0_next_14 dX0_next_17 (fun x hx => (hEx x hx).elim) (Nat.le_of_ble_eq_true rfl) (Nat.le_of_ble_eq_true rfl) (Nat.le_of_ble_eq_true rfl) (Nat.le_of_ble_eq_true rfl) hlocks (fun t ha hz hk => ⟨(1, (fw, fh, fs, fc, fl, fe, fi, ft, fo, fa, an, af)), ⟨(show ((1 : Nat), (0 : Int32), ((fw, fh, fs, fc, fl, fe, fi, ft, fo, fa, an, af) : TBA)) = tb_next fw fh fs fc fl fe fi ft fo fa an af by unfold tb_next; rw [if_pos c_1]), rfl⟩, ⟨rfl, q1, cA, ro_kept hP hk, va_K.moved ha hK, hD⟩, th_F hS hz hk⟩) hS.2.2 (Nat.le_of_ble_eq_true rfl) (Nat.le_of_ble_eq_true rfl)
def tb_item (fw fh fs fc fl fe fi ft fo fa : Int32) (an : Nat) (af : Nat → Int32) (a1 a2 : Int32) : Nat × Int32 × TBA := (if a1 < 0 then (1, 0, (fw, fh, fs, fc, fl, fe, fi, ft, fo, fa, an, af)) else (if a1 < fi then (if a2 < 0 then (2, 0, (fw, fh, fs, fc, fl, fe, fi, ft, fo, fa, an, af)) else (if a2 < 6 then (0, af ((a1 * 6) + a2).toNatClampNeg, (fw, fh, fs, fc, fl, fe, fi, ft, fo, fa, an, af)) else (2, 0, (fw, fh, fs, fc, fl, fe, fi, ft, fo, fa, an, af)))) else (1, 0, (fw, fh, fs, fc, fl, fe, fi, ft, fo, fa, an, af))))
set_option maxHeartbeats 4000000 in
set_option maxRecDepth 100000 in
theorem mtX0_item (l : Launch) (hl9 : l.stackTraces = false) (dC : Nat → ClassId) (dI : Nat → Nat → Nat) (h0 q1 : Nat) (cA : ClassId) (fw fh fs fc fl fe fi ft fo fa : Int32) (an : Nat) (af : Nat → Int32) (sz : Nat) (a1 a2 : Int32) (N : Nat) (hN : fi = nI N) (hNb : N * 6 ≤ an) (han : an < 2 ^ 31) : vx_Met l yX0_item wsX0_item ({ frames := 6, cells := 1, slots := 6, locals := 91 }) (va_Pc [.ref h0, .int a1, .int a2] (zz_P (dC, dI) vwCl [(h0, .inr (0, [.int fw, .int fh, .int fs, .int fc, .int fl, .int fe, .ref q1, .int fi, .int ft, .int fo, .int fa])), (q1, .inl (cA, an, .inl af))] [(cA, .int)] sz)) (va_Qi (fun (r : Int32) (u : TBA) => (0, r, u) = tb_item fw fh fs fc fl fe fi ft fo fa an af a1 a2) (tbAt (dC, dI) (va_A [(h0, .inr (0, [.int fw, .int fh, .int fs, .int fc, .int fl, .int fe, .ref q1, .int fi, .int ft, .int fo, .int fa])), (q1, .inl (cA, an, .inl af))] sz) h0) (va_A [(h0, .inr (0, [.int fw, .int fh, .int fs, .int fc, .int fl, .int fe, .ref q1, .int fi, .int ft, .int fo, .int fa])), (q1, .inl (cA, an, .inl af))] sz)) (vx_X (fun (u : Nat × TBA) => (u.1, (0 : Int32), u.2) = tb_item fw fh fs fc fl fe fi ft fo fa an af a1 a2 ∧ (u.1 = 1 ∨ u.1 = 2)) (fun E u t => E = tb_exi u.1 ∧ tbAt (dC, dI) (va_A [(h0, .inr (0, [.int fw, .int fh, .int fs, .int fc, .int fl, .int fe, .ref q1, .int fi, .int ft, .int fo, .int fa])), (q1, .inl (cA, an, .inl af))] sz) h0 u.2 t) (va_A [(h0, .inr (0, [.int fw, .int fh, .int fs, .int fc, .int fl, .int fe, .ref q1, .int fi, .int ft, .int fo, .int fa])), (q1, .inl (cA, an, .inl af))] sz)) 1 6 (va_A [(h0, .inr (0, [.int fw, .int fh, .int fs, .int fc, .int fl, .int fe, .ref q1, .int fi, .int ft, .int fo, .int fa])), (q1, .inl (cA, an, .inl af))] sz) := by
  refine vx_ofW (cc := cX0_item) (maxL := 3) (ret := (some .int)) (by decide) rfl ?_
  intro p e s m args below meth c s₁ B hml hEx hv
  obtain ⟨rfl, ⟨hsz, hP, hK, hD0⟩, hZ⟩ := hv
  have hx := B.exec
  have hb := B.bytes
  have hr := B.returns
  have hts : ∀ w ∈ gb, w.before _ s = true := fun w h => atoms_spec (ws := wsX0_item) B.pre w (List.mem_cons_of_mem _ h)
  have hown : s.vm.findClass "TileBins" = some m.cls := findClass_of_methodNamed B.named
  have hlocks := B.notSynchronized
  subst hsz
  have hD := hD0.self (sz := s.heap.size)
  generalize hAe : va_A [(h0, .inr (0, [.int fw, .int fh, .int fs, .int fc, .int fl, .int fe, .ref q1, .int fi, .int ft, .int fo, .int fa])), (q1, .inl (cA, an, .inl af))] s.heap.size = A at hD hZ ⊢
  have hA : ∀ q : Nat, s.heap.size ≤ q → A q := fun q h => by rw [← hAe]; exact Or.inr h
  have hS : va_S A s.heap s.heap [] := va_S.rf
  have hP : va_P (dC, dI) vwCl [(h0, .inr (0, [.int fw, .int fh, .int fs, .int fc, .int fl, .int fe, .ref q1, .int fi, .int ft, .int fo, .int fa])), (q1, .inl (cA, an, .inl af))] s.heap := hP
  have hl := lv_entry ([.ref h0, .int a1, .int a2]) (n := 3) (Nat.le_of_ble_eq_true rfl)
  rw [lg_entry_eq]
  generalize (lg_sl ([.ref h0, .int a1, .int a2]) ++ List.replicate (3 - (lg_sl ([.ref h0, .int a1, .int a2])).length) Slot.unset).toArray = ls at hl ⊢
  have hl : lv_has ls 3 [(0, .ref h0), (1, .int a1), (2, .int a2)] := hl
  refine lv_iload_n hx hb dX0_item_0 rfl (lv_at hl 1 rfl) ?_
  refine lv_if_lt (tgt := 12) hx hb dX0_item_1 (by decide) (fun c_1 => ?_) (fun c_1 => ?_)
  · obtain ⟨sa_2, hsa_3⟩ := hZ.str (101, "there is no such item") (by decide +kernel)
    exact vx_throwS (rest := []) (mc := 1) (ms := 6) hx hb hl9 (own := "TileBins") (cls := "java/lang/IndexOutOfBoundsException") (text := "there is no such item") (names := ["java/lang/RuntimeException", "java/lang/Exception"]) hown (by decide +kernel) (by decide +kernel) (hts _ kw_280) (hts _ kw_32) hsa_3 (vx_hat (fun w hw => hts w (hx_Ia w hw)) hx_Ib hZ.bad) hx_Ic hZ.u hZ.n hS (hl.1.trans hml.symm) dX0_item_12 dX0_item_15 dX0_item_16 dX0_item_18 dX0_item_21 (fun x hx => (hEx x hx).elim) (Nat.le_of_ble_eq_true rfl) (Nat.le_of_ble_eq_true rfl) (Nat.le_of_ble_eq_true rfl) (Nat.le_of_ble_eq_true rfl) hlocks (fun t ha hz hk => ⟨(1, (fw, fh, fs, fc, fl, fe, fi, ft, fo, fa, an, af)), ⟨(show ((1 : Nat), (0 : Int32), ((fw, fh, fs, fc, fl, fe, fi, ft, fo, fa, an, af) : TBA)) = tb_item fw fh fs fc fl fe fi ft fo fa an af a1 a2 by unfold tb_item; rw [if_pos c_1]), Or.inl rfl⟩, ⟨rfl, q1, cA, ro_kept hP hk, va_K.moved ha hK, hD⟩, th_F hS hz hk⟩) hS.2.2 (Nat.le_of_ble_eq_true rfl) (Nat.le_of_ble_eq_true rfl)
  · refine lv_iload_n hx hb dX0_item_4 rfl (lv_at hl 1 rfl) ?_
    refine lv_aload_n hx hb dX0_item_5 rfl (lv_at hl 0 rfl) ?_
    refine va_get (D := (dC, dI)) (ci := 0) (v := .int fi) (C := "TileBins") (T := TX0) (N := 11) hx hb hts inX0 hown hK hP 0 rfl rfl 7 (by decide) (hts _ kw_60) (fun _ h9 => h9) rfl dX0_item_6 ?_
    refine lv_icmp_lt (tgt := 22) hx hb dX0_item_9 (by decide) (fun c_4 => ?_) (fun c_4 => ?_)
    · refine lv_iload_n hx hb dX0_item_22 rfl (lv_at hl 2 rfl) ?_
      refine lv_if_lt (tgt := 32) hx hb dX0_item_23 (by decide) (fun c_5 => ?_) (fun c_5 => ?_)
      · obtain ⟨sa_6, hsa_7⟩ := hZ.str (104, "of an item there is 0 to 5") (by decide +kernel)
        exact vx_throwS (rest := []) (mc := 1) (ms := 6) hx hb hl9 (own := "TileBins") (cls := "java/lang/IllegalArgumentException") (text := "of an item there is 0 to 5") (names := ["java/lang/RuntimeException", "java/lang/Exception"]) hown (by decide +kernel) (by decide +kernel) (hts _ kw_103) (hts _ kw_27) hsa_7 (vx_hat (fun w hw => hts w (hx_Aa w hw)) hx_Ab hZ.bad) hx_Ac hZ.u hZ.n hS (hl.1.trans hml.symm) dX0_item_32 dX0_item_35 dX0_item_36 dX0_item_38 dX0_item_41 (fun x hx => (hEx x hx).elim) (Nat.le_of_ble_eq_true rfl) (Nat.le_of_ble_eq_true rfl) (Nat.le_of_ble_eq_true rfl) (Nat.le_of_ble_eq_true rfl) hlocks (fun t ha hz hk => ⟨(2, (fw, fh, fs, fc, fl, fe, fi, ft, fo, fa, an, af)), ⟨(show ((2 : Nat), (0 : Int32), ((fw, fh, fs, fc, fl, fe, fi, ft, fo, fa, an, af) : TBA)) = tb_item fw fh fs fc fl fe fi ft fo fa an af a1 a2 by unfold tb_item; rw [if_neg c_1, if_pos c_4, if_pos c_5]), Or.inr rfl⟩, ⟨rfl, q1, cA, ro_kept hP hk, va_K.moved ha hK, hD⟩, th_F hS hz hk⟩) hS.2.2 (Nat.le_of_ble_eq_true rfl) (Nat.le_of_ble_eq_true rfl)
      · refine lv_iload_n hx hb dX0_item_26 rfl (lv_at hl 2 rfl) ?_
        refine lv_bipush (v := 6) hx hb dX0_item_27 (by first | rfl | decide) ?_
        refine lv_icmp_lt (tgt := 42) hx hb dX0_item_29 (by decide) (fun c_8 => ?_) (fun c_8 => ?_)
        · refine lv_aload_n hx hb dX0_item_42 rfl (lv_at hl 0 rfl) ?_
          refine va_get (D := (dC, dI)) (ci := 0) (v := .ref q1) (C := "TileBins") (T := TX0) (N := 11) hx hb hts inX0 hown hK hP 0 rfl rfl 6 (by decide) (hts _ kw_59) (fun _ h9 => h9) rfl dX0_item_43 ?_
          refine lv_iload_n hx hb dX0_item_46 rfl (lv_at hl 1 rfl) ?_
          refine lv_bipush (v := 6) hx hb dX0_item_47 (by first | rfl | decide) ?_
          refine lv_imul hx hb dX0_item_49 ?_
          refine lv_iload_n hx hb dX0_item_50 rfl (lv_at hl 2 rfl) ?_
          refine lv_iadd hx hb dX0_item_51 ?_
          refine va_iald hx hb hK hP 1 0 rfl rfl (lm_it hN hNb han c_1 c_4 c_5 c_8) dX0_item_52 ?_
          refine W.widen (k := 1) (n := 6) (Nat.le_of_ble_eq_true rfl) (Nat.le_of_ble_eq_true rfl) ?_
          refine vx_ret ?_
          exact W.iret (v := af ((a1 * 6) + a2).toNatClampNeg) hx hb hr (fun t ht hW => ⟨⟨_, (fw, fh, fs, fc, fl, fe, fi, ft, fo, fa, an, af), rfl, (show ((0, (af ((a1 * 6) + a2).toNatClampNeg : Int32), (fw, fh, fs, fc, fl, fe, fi, ft, fo, fa, an, af)) : Nat × Int32 × TBA) = tb_item fw fh fs fc fl fe fi ft fo fa an af a1 a2 by unfold tb_item; rw [if_neg c_1, if_pos c_4, if_neg c_5, if_pos c_8]), q1, cA, by rw [ht]; exact hP, va_K.moved hW.alike hK, hD⟩, hS.F ht⟩) hS.2.2 dX0_item_53
        · obtain ⟨sa_9, hsa_10⟩ := hZ.str (104, "of an item there is 0 to 5") (by decide +kernel)
          exact vx_throwS (rest := []) (mc := 1) (ms := 6) hx hb hl9 (own := "TileBins") (cls := "java/lang/IllegalArgumentException") (text := "of an item there is 0 to 5") (names := ["java/lang/RuntimeException", "java/lang/Exception"]) hown (by decide +kernel) (by decide +kernel) (hts _ kw_103) (hts _ kw_27) hsa_10 (vx_hat (fun w hw => hts w (hx_Aa w hw)) hx_Ab hZ.bad) hx_Ac hZ.u hZ.n hS (hl.1.trans hml.symm) dX0_item_32 dX0_item_35 dX0_item_36 dX0_item_38 dX0_item_41 (fun x hx => (hEx x hx).elim) (Nat.le_of_ble_eq_true rfl) (Nat.le_of_ble_eq_true rfl) (Nat.le_of_ble_eq_true rfl) (Nat.le_of_ble_eq_true rfl) hlocks (fun t ha hz hk => ⟨(2, (fw, fh, fs, fc, fl, fe, fi, ft, fo, fa, an, af)), ⟨(show ((2 : Nat), (0 : Int32), ((fw, fh, fs, fc, fl, fe, fi, ft, fo, fa, an, af) : TBA)) = tb_item fw fh fs fc fl fe fi ft fo fa an af a1 a2 by unfold tb_item; rw [if_neg c_1, if_pos c_4, if_neg c_5, if_neg c_8]), Or.inr rfl⟩, ⟨rfl, q1, cA, ro_kept hP hk, va_K.moved ha hK, hD⟩, th_F hS hz hk⟩) hS.2.2 (Nat.le_of_ble_eq_true rfl) (Nat.le_of_ble_eq_true rfl)
    · obtain ⟨sa_11, hsa_12⟩ := hZ.str (101, "there is no such item") (by decide +kernel)
      exact vx_throwS (rest := []) (mc := 1) (ms := 6) hx hb hl9 (own := "TileBins") (cls := "java/lang/IndexOutOfBoundsException") (text := "there is no such item") (names := ["java/lang/RuntimeException", "java/lang/Exception"]) hown (by decide +kernel) (by decide +kernel) (hts _ kw_280) (hts _ kw_32) hsa_12 (vx_hat (fun w hw => hts w (hx_Ia w hw)) hx_Ib hZ.bad) hx_Ic hZ.u hZ.n hS (hl.1.trans hml.symm) dX0_item_12 dX0_item_15 dX0_item_16 dX0_item_18 dX0_item_21 (fun x hx => (hEx x hx).elim) (Nat.le_of_ble_eq_true rfl) (Nat.le_of_ble_eq_true rfl) (Nat.le_of_ble_eq_true rfl) (Nat.le_of_ble_eq_true rfl) hlocks (fun t ha hz hk => ⟨(1, (fw, fh, fs, fc, fl, fe, fi, ft, fo, fa, an, af)), ⟨(show ((1 : Nat), (0 : Int32), ((fw, fh, fs, fc, fl, fe, fi, ft, fo, fa, an, af) : TBA)) = tb_item fw fh fs fc fl fe fi ft fo fa an af a1 a2 by unfold tb_item; rw [if_neg c_1, if_neg c_4]), Or.inl rfl⟩, ⟨rfl, q1, cA, ro_kept hP hk, va_K.moved ha hK, hD⟩, th_F hS hz hk⟩) hS.2.2 (Nat.le_of_ble_eq_true rfl) (Nat.le_of_ble_eq_true rfl)
def tb_tile (fw fh fs fc fl fe fi ft fo fa : Int32) (an : Nat) (af : Nat → Int32) (a1 a2 : Int32) : Nat × Int32 × TBA := (if (tb_isTile fc fl a1) = 0 then (1, 0, (fw, fh, fs, fc, fl, fe, fi, ft, fo, fa, an, af)) else (if a2 = 0 then (0, tb_left fs fc a1, (fw, fh, fs, fc, fl, fe, fi, ft, fo, fa, an, af)) else (if a2 = 1 then (0, tb_top fs fc a1, (fw, fh, fs, fc, fl, fe, fi, ft, fo, fa, an, af)) else (if a2 = 2 then (0, if fw < ((tb_left fs fc a1) + (tb_side fs)) then fw else ((tb_left fs fc a1) + (tb_side fs)), (fw, fh, fs, fc, fl, fe, fi, ft, fo, fa, an, af)) else (if a2 = 3 then (0, if fh < ((tb_top fs fc a1) + (tb_side fs)) then fh else ((tb_top fs fc a1) + (tb_side fs)), (fw, fh, fs, fc, fl, fe, fi, ft, fo, fa, an, af)) else (if a2 = 4 then (0, tb_many fs fc fi af a1, (fw, fh, fs, fc, fl, fe, fi, ft, fo, fa, an, af)) else (1, 0, (fw, fh, fs, fc, fl, fe, fi, ft, fo, fa, an, af))))))))
set_option maxHeartbeats 4000000 in
set_option maxRecDepth 100000 in
theorem mtX0_tile (l : Launch) (hl9 : l.stackTraces = false) (dC : Nat → ClassId) (dI : Nat → Nat → Nat) (h0 q1 : Nat) (cA : ClassId) (fw fh fs fc fl fe fi ft fo fa : Int32) (an : Nat) (af : Nat → Int32) (sz : Nat) (a1 a2 : Int32) (N : Nat) (hN : fi = nI N) (hNb : N * 6 ≤ an) (han : an < 2 ^ 31) : vx_Met l yX0_tile wsX0_tile ({ frames := 6, cells := 1, slots := 6, locals := 91 }) (va_Pc [.ref h0, .int a1, .int a2] (zz_P (dC, dI) vwCl [(h0, .inr (0, [.int fw, .int fh, .int fs, .int fc, .int fl, .int fe, .ref q1, .int fi, .int ft, .int fo, .int fa])), (q1, .inl (cA, an, .inl af))] [(cA, .int)] sz)) (va_Qi (fun (r : Int32) (u : TBA) => (0, r, u) = tb_tile fw fh fs fc fl fe fi ft fo fa an af a1 a2) (tbAt (dC, dI) (va_A [(h0, .inr (0, [.int fw, .int fh, .int fs, .int fc, .int fl, .int fe, .ref q1, .int fi, .int ft, .int fo, .int fa])), (q1, .inl (cA, an, .inl af))] sz) h0) (va_A [(h0, .inr (0, [.int fw, .int fh, .int fs, .int fc, .int fl, .int fe, .ref q1, .int fi, .int ft, .int fo, .int fa])), (q1, .inl (cA, an, .inl af))] sz)) (vx_X (fun (u : Nat × TBA) => (u.1, (0 : Int32), u.2) = tb_tile fw fh fs fc fl fe fi ft fo fa an af a1 a2 ∧ (u.1 = 1)) (fun E u t => E = tb_exa u.1 ∧ tbAt (dC, dI) (va_A [(h0, .inr (0, [.int fw, .int fh, .int fs, .int fc, .int fl, .int fe, .ref q1, .int fi, .int ft, .int fo, .int fa])), (q1, .inl (cA, an, .inl af))] sz) h0 u.2 t) (va_A [(h0, .inr (0, [.int fw, .int fh, .int fs, .int fc, .int fl, .int fe, .ref q1, .int fi, .int ft, .int fo, .int fa])), (q1, .inl (cA, an, .inl af))] sz)) 1 6 (va_A [(h0, .inr (0, [.int fw, .int fh, .int fs, .int fc, .int fl, .int fe, .ref q1, .int fi, .int ft, .int fo, .int fa])), (q1, .inl (cA, an, .inl af))] sz) := by
  refine vx_ofW (cc := cX0_tile) (maxL := 3) (ret := (some .int)) (by decide) rfl ?_
  intro p e s m args below meth c s₁ B hml hEx hv
  obtain ⟨rfl, ⟨hsz, hP, hK, hD0⟩, hZ⟩ := hv
  have hx := B.exec
  have hb := B.bytes
  have hr := B.returns
  have hts : ∀ w ∈ gb, w.before _ s = true := fun w h => atoms_spec (ws := wsX0_tile) B.pre w (List.mem_cons_of_mem _ h)
  have hown : s.vm.findClass "TileBins" = some m.cls := findClass_of_methodNamed B.named
  have hlocks := B.notSynchronized
  subst hsz
  have hD := hD0.self (sz := s.heap.size)
  generalize hAe : va_A [(h0, .inr (0, [.int fw, .int fh, .int fs, .int fc, .int fl, .int fe, .ref q1, .int fi, .int ft, .int fo, .int fa])), (q1, .inl (cA, an, .inl af))] s.heap.size = A at hD hZ ⊢
  have hA : ∀ q : Nat, s.heap.size ≤ q → A q := fun q h => by rw [← hAe]; exact Or.inr h
  have hS : va_S A s.heap s.heap [] := va_S.rf
  have hP : va_P (dC, dI) vwCl [(h0, .inr (0, [.int fw, .int fh, .int fs, .int fc, .int fl, .int fe, .ref q1, .int fi, .int ft, .int fo, .int fa])), (q1, .inl (cA, an, .inl af))] s.heap := hP
  have hl := lv_entry ([.ref h0, .int a1, .int a2]) (n := 3) (Nat.le_of_ble_eq_true rfl)
  rw [lg_entry_eq]
  generalize (lg_sl ([.ref h0, .int a1, .int a2]) ++ List.replicate (3 - (lg_sl ([.ref h0, .int a1, .int a2])).length) Slot.unset).toArray = ls at hl ⊢
  have hl : lv_has ls 3 [(0, .ref h0), (1, .int a1), (2, .int a2)] := hl
  refine lv_aload_n hx hb dX0_tile_0 rfl (lv_at hl 0 rfl) ?_
  refine lv_iload_n hx hb dX0_tile_1 rfl (lv_at hl 1 rfl) ?_
  refine ro_calli (va_runV (As := [.int a1]) (rest := []) ⟨hx, hb, hml, hown, hts⟩ (mtX0_isTile l dC dI h0 q1 cA fw fh fs fc fl fe fi ft fo fa an af s.heap.size a1) (cwV 1 hts (gb_v kw_235 kw_237 kw_6 kw_22 kw_238) rfl rfl rfl (by decide +kernel) ⟨Nat.le_of_ble_eq_true rfl, Nat.le_of_ble_eq_true rfl⟩) ⟨ro_P.blind, va_recv hK hP (ci := 0) (q0 := 0) rfl rfl, ro_P.at hP hK⟩ rfl rfl hl.1 rfl (lv_room (Nat.le_of_ble_eq_true rfl)) dX0_tile_2 ⟨Nat.le_of_ble_eq_true rfl, Nat.le_of_ble_eq_true rfl⟩) hP hS hA (fun H locs hP hS hz hk => ?_)
  refine lv_if_ne (tgt := 18) hx hb dX0_tile_5 (by decide) (fun c_1 => ?_) (fun c_1 => ?_)
  · refine lv_iload_n hx hb dX0_tile_18 rfl (lv_at hl 2 rfl) ?_
    rcases Classical.em (a2 = 0) with c_2 | c_2
    · refine lv_tableIn (off := 33) (tgt := 52) hx hb dX0_tile_19 (by rw [c_2]; decide) (by rw [c_2]; decide) (by rw [c_2]; rfl) (by decide) ?_
      refine lv_aload_n hx hb dX0_tile_52 rfl (lv_at hl 0 rfl) ?_
      refine lv_iload_n hx hb dX0_tile_53 rfl (lv_at hl 1 rfl) ?_
      refine ro_calli (va_runV (As := [.int a1]) (rest := []) ⟨hx, hb, hml, hown, hts⟩ (mtX0_leftOf l dC dI h0 q1 cA fw fh fs fc fl fe fi ft fo fa an af H.size a1) (cwV 1 hts (gb_v kw_244 kw_246 kw_8 kw_22 kw_247) rfl rfl rfl (by decide +kernel) ⟨Nat.le_of_ble_eq_true rfl, Nat.le_of_ble_eq_true rfl⟩) ⟨ro_P.blind, va_recv hK hP (ci := 0) (q0 := 0) rfl rfl, ro_P.at hP hK⟩ rfl rfl hl.1 rfl (lv_room (Nat.le_of_ble_eq_true rfl)) dX0_tile_54 ⟨Nat.le_of_ble_eq_true rfl, Nat.le_of_ble_eq_true rfl⟩) hP hS hA (fun H locs hP hS hz hk => ?_)
      refine W.widen (k := 1) (n := 6) (Nat.le_of_ble_eq_true rfl) (Nat.le_of_ble_eq_true rfl) ?_
      refine vx_ret ?_
      exact W.iret (v := tb_left fs fc a1) hx hb hr (fun t ht hW => ⟨⟨_, (fw, fh, fs, fc, fl, fe, fi, ft, fo, fa, an, af), rfl, (show ((0, (tb_left fs fc a1 : Int32), (fw, fh, fs, fc, fl, fe, fi, ft, fo, fa, an, af)) : Nat × Int32 × TBA) = tb_tile fw fh fs fc fl fe fi ft fo fa an af a1 a2 by unfold tb_tile; rw [if_neg c_1, if_pos c_2]), q1, cA, by rw [ht]; exact hP, va_K.moved hW.alike hK, hD⟩, hS.F ht⟩) hS.2.2 dX0_tile_57
    · rcases Classical.em (a2 = 1) with c_3 | c_3
      · refine lv_tableIn (off := 39) (tgt := 58) hx hb dX0_tile_19 (by rw [c_3]; decide) (by rw [c_3]; decide) (by rw [c_3]; rfl) (by decide) ?_
        refine lv_aload_n hx hb dX0_tile_58 rfl (lv_at hl 0 rfl) ?_
        refine lv_iload_n hx hb dX0_tile_59 rfl (lv_at hl 1 rfl) ?_
        refine ro_calli (va_runV (As := [.int a1]) (rest := []) ⟨hx, hb, hml, hown, hts⟩ (mtX0_topOf l dC dI h0 q1 cA fw fh fs fc fl fe fi ft fo fa an af H.size a1) (cwV 1 hts (gb_v kw_248 kw_250 kw_9 kw_22 kw_251) rfl rfl rfl (by decide +kernel) ⟨Nat.le_of_ble_eq_true rfl, Nat.le_of_ble_eq_true rfl⟩) ⟨ro_P.blind, va_recv hK hP (ci := 0) (q0 := 0) rfl rfl, ro_P.at hP hK⟩ rfl rfl hl.1 rfl (lv_room (Nat.le_of_ble_eq_true rfl)) dX0_tile_60 ⟨Nat.le_of_ble_eq_true rfl, Nat.le_of_ble_eq_true rfl⟩) hP hS hA (fun H locs hP hS hz hk => ?_)
        refine W.widen (k := 1) (n := 6) (Nat.le_of_ble_eq_true rfl) (Nat.le_of_ble_eq_true rfl) ?_
        refine vx_ret ?_
        exact W.iret (v := tb_top fs fc a1) hx hb hr (fun t ht hW => ⟨⟨_, (fw, fh, fs, fc, fl, fe, fi, ft, fo, fa, an, af), rfl, (show ((0, (tb_top fs fc a1 : Int32), (fw, fh, fs, fc, fl, fe, fi, ft, fo, fa, an, af)) : Nat × Int32 × TBA) = tb_tile fw fh fs fc fl fe fi ft fo fa an af a1 a2 by unfold tb_tile; rw [if_neg c_1, if_neg c_2, if_pos c_3]), q1, cA, by rw [ht]; exact hP, va_K.moved hW.alike hK, hD⟩, hS.F ht⟩) hS.2.2 dX0_tile_63
      · rcases Classical.em (a2 = 2) with c_4 | c_4
        · refine lv_tableIn (off := 45) (tgt := 64) hx hb dX0_tile_19 (by rw [c_4]; decide) (by rw [c_4]; decide) (by rw [c_4]; rfl) (by decide) ?_
          refine lv_aload_n hx hb dX0_tile_64 rfl (lv_at hl 0 rfl) ?_
          refine lv_iload_n hx hb dX0_tile_65 rfl (lv_at hl 1 rfl) ?_
          refine ro_calli (va_runV (As := [.int a1]) (rest := []) ⟨hx, hb, hml, hown, hts⟩ (mtX0_leftOf l dC dI h0 q1 cA fw fh fs fc fl fe fi ft fo fa an af H.size a1) (cwV 1 hts (gb_v kw_244 kw_246 kw_8 kw_22 kw_247) rfl rfl rfl (by decide +kernel) ⟨Nat.le_of_ble_eq_true rfl, Nat.le_of_ble_eq_true rfl⟩) ⟨ro_P.blind, va_recv hK hP (ci := 0) (q0 := 0) rfl rfl, ro_P.at hP hK⟩ rfl rfl hl.1 rfl (lv_room (Nat.le_of_ble_eq_true rfl)) dX0_tile_66 ⟨Nat.le_of_ble_eq_true rfl, Nat.le_of_ble_eq_true rfl⟩) hP hS hA (fun H locs hP hS hz hk => ?_)
          refine lv_aload_n hx hb dX0_tile_69 rfl (lv_at hl 0 rfl) ?_
          refine ro_calli (va_runV (As := []) (rest := [.int (tb_left fs fc a1)]) ⟨hx, hb, hml, hown, hts⟩ (mtX0_sideLength l dC dI h0 q1 cA fw fh fs fc fl fe fi ft fo fa an af H.size ) (cwV 0 hts (gb_v kw_256 kw_258 kw_11 kw_22 kw_259) rfl rfl rfl (by decide +kernel) ⟨Nat.le_of_ble_eq_true rfl, Nat.le_of_ble_eq_true rfl⟩) ⟨ro_P.blind, va_recv hK hP (ci := 0) (q0 := 0) rfl rfl, ro_P.at hP hK⟩ rfl rfl hl.1 rfl (lv_room (Nat.le_of_ble_eq_true rfl)) dX0_tile_70 ⟨Nat.le_of_ble_eq_true rfl, Nat.le_of_ble_eq_true rfl⟩) hP hS hA (fun H locs hP hS hz hk => ?_)
          refine lv_iadd hx hb dX0_tile_73 ?_
          refine lv_aload_n hx hb dX0_tile_74 rfl (lv_at hl 0 rfl) ?_
          refine va_get (D := (dC, dI)) (ci := 0) (v := .int fw) (C := "TileBins") (T := TX0) (N := 11) hx hb hts inX0 hown hK hP 0 rfl rfl 0 (by decide) (hts _ kw_53) (fun _ h9 => h9) rfl dX0_tile_75 ?_
          refine va_mmin hx hb (hml.trans hl.1.symm) hown (hts _ kw_191) (hts _ kw_192) (hts _ kw_28) (hts _ kw_mmin) (Nat.le_of_ble_eq_true rfl) (Nat.le_of_ble_eq_true rfl) (Nat.le_of_ble_eq_true rfl) (Nat.le_of_ble_eq_true rfl) dX0_tile_78 ?_
          refine W.widen (k := 1) (n := 6) (Nat.le_of_ble_eq_true rfl) (Nat.le_of_ble_eq_true rfl) ?_
          refine vx_ret ?_
          exact W.iret (v := if fw < ((tb_left fs fc a1) + (tb_side fs)) then fw else ((tb_left fs fc a1) + (tb_side fs))) hx hb hr (fun t ht hW => ⟨⟨_, (fw, fh, fs, fc, fl, fe, fi, ft, fo, fa, an, af), rfl, (show ((0, (if fw < ((tb_left fs fc a1) + (tb_side fs)) then fw else ((tb_left fs fc a1) + (tb_side fs)) : Int32), (fw, fh, fs, fc, fl, fe, fi, ft, fo, fa, an, af)) : Nat × Int32 × TBA) = tb_tile fw fh fs fc fl fe fi ft fo fa an af a1 a2 by unfold tb_tile; rw [if_neg c_1, if_neg c_2, if_neg c_3, if_pos c_4]), q1, cA, by rw [ht]; exact hP, va_K.moved hW.alike hK, hD⟩, hS.F ht⟩) hS.2.2 dX0_tile_81
        · rcases Classical.em (a2 = 3) with c_5 | c_5
          · refine lv_tableIn (off := 63) (tgt := 82) hx hb dX0_tile_19 (by rw [c_5]; decide) (by rw [c_5]; decide) (by rw [c_5]; rfl) (by decide) ?_
            refine lv_aload_n hx hb dX0_tile_82 rfl (lv_at hl 0 rfl) ?_
            refine lv_iload_n hx hb dX0_tile_83 rfl (lv_at hl 1 rfl) ?_
            refine ro_calli (va_runV (As := [.int a1]) (rest := []) ⟨hx, hb, hml, hown, hts⟩ (mtX0_topOf l dC dI h0 q1 cA fw fh fs fc fl fe fi ft fo fa an af H.size a1) (cwV 1 hts (gb_v kw_248 kw_250 kw_9 kw_22 kw_251) rfl rfl rfl (by decide +kernel) ⟨Nat.le_of_ble_eq_true rfl, Nat.le_of_ble_eq_true rfl⟩) ⟨ro_P.blind, va_recv hK hP (ci := 0) (q0 := 0) rfl rfl, ro_P.at hP hK⟩ rfl rfl hl.1 rfl (lv_room (Nat.le_of_ble_eq_true rfl)) dX0_tile_84 ⟨Nat.le_of_ble_eq_true rfl, Nat.le_of_ble_eq_true rfl⟩) hP hS hA (fun H locs hP hS hz hk => ?_)
            refine lv_aload_n hx hb dX0_tile_87 rfl (lv_at hl 0 rfl) ?_
            refine ro_calli (va_runV (As := []) (rest := [.int (tb_top fs fc a1)]) ⟨hx, hb, hml, hown, hts⟩ (mtX0_sideLength l dC dI h0 q1 cA fw fh fs fc fl fe fi ft fo fa an af H.size ) (cwV 0 hts (gb_v kw_256 kw_258 kw_11 kw_22 kw_259) rfl rfl rfl (by decide +kernel) ⟨Nat.le_of_ble_eq_true rfl, Nat.le_of_ble_eq_true rfl⟩) ⟨ro_P.blind, va_recv hK hP (ci := 0) (q0 := 0) rfl rfl, ro_P.at hP hK⟩ rfl rfl hl.1 rfl (lv_room (Nat.le_of_ble_eq_true rfl)) dX0_tile_88 ⟨Nat.le_of_ble_eq_true rfl, Nat.le_of_ble_eq_true rfl⟩) hP hS hA (fun H locs hP hS hz hk => ?_)
            refine lv_iadd hx hb dX0_tile_91 ?_
            refine lv_aload_n hx hb dX0_tile_92 rfl (lv_at hl 0 rfl) ?_
            refine va_get (D := (dC, dI)) (ci := 0) (v := .int fh) (C := "TileBins") (T := TX0) (N := 11) hx hb hts inX0 hown hK hP 0 rfl rfl 1 (by decide) (hts _ kw_54) (fun _ h9 => h9) rfl dX0_tile_93 ?_
            refine va_mmin hx hb (hml.trans hl.1.symm) hown (hts _ kw_191) (hts _ kw_192) (hts _ kw_28) (hts _ kw_mmin) (Nat.le_of_ble_eq_true rfl) (Nat.le_of_ble_eq_true rfl) (Nat.le_of_ble_eq_true rfl) (Nat.le_of_ble_eq_true rfl) dX0_tile_96 ?_
            refine W.widen (k := 1) (n := 6) (Nat.le_of_ble_eq_true rfl) (Nat.le_of_ble_eq_true rfl) ?_
            refine vx_ret ?_
            exact W.iret (v := if fh < ((tb_top fs fc a1) + (tb_side fs)) then fh else ((tb_top fs fc a1) + (tb_side fs))) hx hb hr (fun t ht hW => ⟨⟨_, (fw, fh, fs, fc, fl, fe, fi, ft, fo, fa, an, af), rfl, (show ((0, (if fh < ((tb_top fs fc a1) + (tb_side fs)) then fh else ((tb_top fs fc a1) + (tb_side fs)) : Int32), (fw, fh, fs, fc, fl, fe, fi, ft, fo, fa, an, af)) : Nat × Int32 × TBA) = tb_tile fw fh fs fc fl fe fi ft fo fa an af a1 a2 by unfold tb_tile; rw [if_neg c_1, if_neg c_2, if_neg c_3, if_neg c_4, if_pos c_5]), q1, cA, by rw [ht]; exact hP, va_K.moved hW.alike hK, hD⟩, hS.F ht⟩) hS.2.2 dX0_tile_99
          · rcases Classical.em (a2 = 4) with c_6 | c_6
            · refine lv_tableIn (off := 81) (tgt := 100) hx hb dX0_tile_19 (by rw [c_6]; decide) (by rw [c_6]; decide) (by rw [c_6]; rfl) (by decide) ?_
              refine lv_aload_n hx hb dX0_tile_100 rfl (lv_at hl 0 rfl) ?_
              refine lv_iload_n hx hb dX0_tile_101 rfl (lv_at hl 1 rfl) ?_
              refine ro_calli (va_runV (As := [.int a1]) (rest := []) ⟨hx, hb, hml, hown, hts⟩ (mtX0_itemsTouching l dC dI h0 q1 cA fw fh fs fc fl fe fi ft fo fa an af H.size a1 N hN hNb han) (cwV 1 hts (gb_v kw_240 kw_242 kw_7 kw_22 kw_243) rfl rfl rfl (by decide +kernel) ⟨Nat.le_of_ble_eq_true rfl, Nat.le_of_ble_eq_true rfl⟩) ⟨ro_P.blind, va_recv hK hP (ci := 0) (q0 := 0) rfl rfl, ro_P.at hP hK⟩ rfl rfl hl.1 rfl (lv_room (Nat.le_of_ble_eq_true rfl)) dX0_tile_102 ⟨Nat.le_of_ble_eq_true rfl, Nat.le_of_ble_eq_true rfl⟩) hP hS hA (fun H locs hP hS hz hk => ?_)
              refine W.widen (k := 1) (n := 6) (Nat.le_of_ble_eq_true rfl) (Nat.le_of_ble_eq_true rfl) ?_
              refine vx_ret ?_
              exact W.iret (v := tb_many fs fc fi af a1) hx hb hr (fun t ht hW => ⟨⟨_, (fw, fh, fs, fc, fl, fe, fi, ft, fo, fa, an, af), rfl, (show ((0, (tb_many fs fc fi af a1 : Int32), (fw, fh, fs, fc, fl, fe, fi, ft, fo, fa, an, af)) : Nat × Int32 × TBA) = tb_tile fw fh fs fc fl fe fi ft fo fa an af a1 a2 by unfold tb_tile; rw [if_neg c_1, if_neg c_2, if_neg c_3, if_neg c_4, if_neg c_5, if_pos c_6]), q1, cA, by rw [ht]; exact hP, va_K.moved hW.alike hK, hD⟩, hS.F ht⟩) hS.2.2 dX0_tile_105
            · refine lv_tableOut (tgt := 106) hx hb dX0_tile_19 (sw_out5 c_2 c_3 c_4 c_5 c_6) (by decide) ?_
              obtain ⟨sa_7, hsa_8⟩ := hZ.str (115, "of a tile there is 0 to 4") (by decide +kernel)
              exact vx_throwS (rest := []) (mc := 1) (ms := 6) hx hb hl9 (own := "TileBins") (cls := "java/lang/IllegalArgumentException") (text := "of a tile there is 0 to 4") (names := ["java/lang/RuntimeException", "java/lang/Exception"]) hown (by decide +kernel) (by decide +kernel) (hts _ kw_103) (hts _ kw_27) hsa_8 (vx_hat (fun w hw => hts w (hx_Aa w hw)) hx_Ab hZ.bad) hx_Ac hZ.u hZ.n hS (hl.1.trans hml.symm) dX0_tile_106 dX0_tile_109 dX0_tile_110 dX0_tile_112 dX0_tile_115 (fun x hx => (hEx x hx).elim) (Nat.le_of_ble_eq_true rfl) (Nat.le_of_ble_eq_true rfl) (Nat.le_of_ble_eq_true rfl) (Nat.le_of_ble_eq_true rfl) hlocks (fun t ha hz hk => ⟨(1, (fw, fh, fs, fc, fl, fe, fi, ft, fo, fa, an, af)), ⟨(show ((1 : Nat), (0 : Int32), ((fw, fh, fs, fc, fl, fe, fi, ft, fo, fa, an, af) : TBA)) = tb_tile fw fh fs fc fl fe fi ft fo fa an af a1 a2 by unfold tb_tile; rw [if_neg c_1, if_neg c_2, if_neg c_3, if_neg c_4, if_neg c_5, if_neg c_6]), rfl⟩, ⟨rfl, q1, cA, ro_kept hP hk, va_K.moved ha hK, hD⟩, th_F hS hz hk⟩) hS.2.2 (Nat.le_of_ble_eq_true rfl) (Nat.le_of_ble_eq_true rfl)
  · obtain ⟨sa_9, hsa_10⟩ := hZ.str (83, "there is no such tile") (by decide +kernel)
    exact vx_throwS (rest := []) (mc := 1) (ms := 6) hx hb hl9 (own := "TileBins") (cls := "java/lang/IllegalArgumentException") (text := "there is no such tile") (names := ["java/lang/RuntimeException", "java/lang/Exception"]) hown (by decide +kernel) (by decide +kernel) (hts _ kw_103) (hts _ kw_27) hsa_10 (vx_hat (fun w hw => hts w (hx_Aa w hw)) hx_Ab hZ.bad) hx_Ac hZ.u hZ.n hS (hl.1.trans hml.symm) dX0_tile_8 dX0_tile_11 dX0_tile_12 dX0_tile_14 dX0_tile_17 (fun x hx => (hEx x hx).elim) (Nat.le_of_ble_eq_true rfl) (Nat.le_of_ble_eq_true rfl) (Nat.le_of_ble_eq_true rfl) (Nat.le_of_ble_eq_true rfl) hlocks (fun t ha hz hk => ⟨(1, (fw, fh, fs, fc, fl, fe, fi, ft, fo, fa, an, af)), ⟨(show ((1 : Nat), (0 : Int32), ((fw, fh, fs, fc, fl, fe, fi, ft, fo, fa, an, af) : TBA)) = tb_tile fw fh fs fc fl fe fi ft fo fa an af a1 a2 by unfold tb_tile; rw [if_pos c_1]), rfl⟩, ⟨rfl, q1, cA, ro_kept hP hk, va_K.moved ha hK, hD⟩, th_F hS hz hk⟩) hS.2.2 (Nat.le_of_ble_eq_true rfl) (Nat.le_of_ble_eq_true rfl)
def tb_tileOf (fw fh fs fc fl fe fi ft fo fa : Int32) (an : Nat) (af : Nat → Int32) (a1 a2 : Int32) : Nat × Int32 × TBA := (if a1 < 0 then (1, 0, (fw, fh, fs, fc, fl, fe, fi, ft, fo, fa, an, af)) else (if fw ≤ a1 then (1, 0, (fw, fh, fs, fc, fl, fe, fi, ft, fo, fa, an, af)) else (if a2 < 0 then (1, 0, (fw, fh, fs, fc, fl, fe, fi, ft, fo, fa, an, af)) else (if a2 < fh then (0, ((a2 >>> (fs &&& 31)) * fc) + (a1 >>> (fs &&& 31)), (fw, fh, fs, fc, fl, fe, fi, ft, fo, fa, an, af)) else (1, 0, (fw, fh, fs, fc, fl, fe, fi, ft, fo, fa, an, af))))))
set_option maxHeartbeats 4000000 in
set_option maxRecDepth 100000 in
theorem mtX0_tileOf (l : Launch) (hl9 : l.stackTraces = false) (dC : Nat → ClassId) (dI : Nat → Nat → Nat) (h0 q1 : Nat) (cA : ClassId) (fw fh fs fc fl fe fi ft fo fa : Int32) (an : Nat) (af : Nat → Int32) (sz : Nat) (a1 a2 : Int32) : vx_Met l yX0_tileOf wsX0_tileOf ({ frames := 6, cells := 1, slots := 6, locals := 91 }) (va_Pc [.ref h0, .int a1, .int a2] (zz_P (dC, dI) vwCl [(h0, .inr (0, [.int fw, .int fh, .int fs, .int fc, .int fl, .int fe, .ref q1, .int fi, .int ft, .int fo, .int fa])), (q1, .inl (cA, an, .inl af))] [(cA, .int)] sz)) (va_Qi (fun (r : Int32) (u : TBA) => (0, r, u) = tb_tileOf fw fh fs fc fl fe fi ft fo fa an af a1 a2) (tbAt (dC, dI) (va_A [(h0, .inr (0, [.int fw, .int fh, .int fs, .int fc, .int fl, .int fe, .ref q1, .int fi, .int ft, .int fo, .int fa])), (q1, .inl (cA, an, .inl af))] sz) h0) (va_A [(h0, .inr (0, [.int fw, .int fh, .int fs, .int fc, .int fl, .int fe, .ref q1, .int fi, .int ft, .int fo, .int fa])), (q1, .inl (cA, an, .inl af))] sz)) (vx_X (fun (u : Nat × TBA) => (u.1, (0 : Int32), u.2) = tb_tileOf fw fh fs fc fl fe fi ft fo fa an af a1 a2 ∧ (u.1 = 1)) (fun E u t => E = tb_exa u.1 ∧ tbAt (dC, dI) (va_A [(h0, .inr (0, [.int fw, .int fh, .int fs, .int fc, .int fl, .int fe, .ref q1, .int fi, .int ft, .int fo, .int fa])), (q1, .inl (cA, an, .inl af))] sz) h0 u.2 t) (va_A [(h0, .inr (0, [.int fw, .int fh, .int fs, .int fc, .int fl, .int fe, .ref q1, .int fi, .int ft, .int fo, .int fa])), (q1, .inl (cA, an, .inl af))] sz)) 1 6 (va_A [(h0, .inr (0, [.int fw, .int fh, .int fs, .int fc, .int fl, .int fe, .ref q1, .int fi, .int ft, .int fo, .int fa])), (q1, .inl (cA, an, .inl af))] sz) := by
  refine vx_ofW (cc := cX0_tileOf) (maxL := 3) (ret := (some .int)) (by decide) rfl ?_
  intro p e s m args below meth c s₁ B hml hEx hv
  obtain ⟨rfl, ⟨hsz, hP, hK, hD0⟩, hZ⟩ := hv
  have hx := B.exec
  have hb := B.bytes
  have hr := B.returns
  have hts : ∀ w ∈ gb, w.before _ s = true := fun w h => atoms_spec (ws := wsX0_tileOf) B.pre w (List.mem_cons_of_mem _ h)
  have hown : s.vm.findClass "TileBins" = some m.cls := findClass_of_methodNamed B.named
  have hlocks := B.notSynchronized
  subst hsz
  have hD := hD0.self (sz := s.heap.size)
  generalize hAe : va_A [(h0, .inr (0, [.int fw, .int fh, .int fs, .int fc, .int fl, .int fe, .ref q1, .int fi, .int ft, .int fo, .int fa])), (q1, .inl (cA, an, .inl af))] s.heap.size = A at hD hZ ⊢
  have hA : ∀ q : Nat, s.heap.size ≤ q → A q := fun q h => by rw [← hAe]; exact Or.inr h
  have hS : va_S A s.heap s.heap [] := va_S.rf
  have hP : va_P (dC, dI) vwCl [(h0, .inr (0, [.int fw, .int fh, .int fs, .int fc, .int fl, .int fe, .ref q1, .int fi, .int ft, .int fo, .int fa])), (q1, .inl (cA, an, .inl af))] s.heap := hP
  have hl := lv_entry ([.ref h0, .int a1, .int a2]) (n := 3) (Nat.le_of_ble_eq_true rfl)
  rw [lg_entry_eq]
  generalize (lg_sl ([.ref h0, .int a1, .int a2]) ++ List.replicate (3 - (lg_sl ([.ref h0, .int a1, .int a2])).length) Slot.unset).toArray = ls at hl ⊢
  have hl : lv_has ls 3 [(0, .ref h0), (1, .int a1), (2, .int a2)] := hl
  refine lv_iload_n hx hb dX0_tileOf_0 rfl (lv_at hl 1 rfl) ?_
  refine lv_if_lt (tgt := 24) hx hb dX0_tileOf_1 (by decide) (fun c_1 => ?_) (fun c_1 => ?_)
  · obtain ⟨sa_2, hsa_3⟩ := hZ.str (117, "the place is not in the field") (by decide +kernel)
    exact vx_throwS (rest := []) (mc := 1) (ms := 6) hx hb hl9 (own := "TileBins") (cls := "java/lang/IllegalArgumentException") (text := "the place is not in the field") (names := ["java/lang/RuntimeException", "java/lang/Exception"]) hown (by decide +kernel) (by decide +kernel) (hts _ kw_103) (hts _ kw_27) hsa_3 (vx_hat (fun w hw => hts w (hx_Aa w hw)) hx_Ab hZ.bad) hx_Ac hZ.u hZ.n hS (hl.1.trans hml.symm) dX0_tileOf_24 dX0_tileOf_27 dX0_tileOf_28 dX0_tileOf_30 dX0_tileOf_33 (fun x hx => (hEx x hx).elim) (Nat.le_of_ble_eq_true rfl) (Nat.le_of_ble_eq_true rfl) (Nat.le_of_ble_eq_true rfl) (Nat.le_of_ble_eq_true rfl) hlocks (fun t ha hz hk => ⟨(1, (fw, fh, fs, fc, fl, fe, fi, ft, fo, fa, an, af)), ⟨(show ((1 : Nat), (0 : Int32), ((fw, fh, fs, fc, fl, fe, fi, ft, fo, fa, an, af) : TBA)) = tb_tileOf fw fh fs fc fl fe fi ft fo fa an af a1 a2 by unfold tb_tileOf; rw [if_pos c_1]), rfl⟩, ⟨rfl, q1, cA, ro_kept hP hk, va_K.moved ha hK, hD⟩, th_F hS hz hk⟩) hS.2.2 (Nat.le_of_ble_eq_true rfl) (Nat.le_of_ble_eq_true rfl)
  · refine lv_iload_n hx hb dX0_tileOf_4 rfl (lv_at hl 1 rfl) ?_
    refine lv_aload_n hx hb dX0_tileOf_5 rfl (lv_at hl 0 rfl) ?_
    refine va_get (D := (dC, dI)) (ci := 0) (v := .int fw) (C := "TileBins") (T := TX0) (N := 11) hx hb hts inX0 hown hK hP 0 rfl rfl 0 (by decide) (hts _ kw_53) (fun _ h9 => h9) rfl dX0_tileOf_6 ?_
    refine lv_icmp_ge (tgt := 24) hx hb dX0_tileOf_9 (by decide) (fun c_4 => ?_) (fun c_4 => ?_)
    · obtain ⟨sa_5, hsa_6⟩ := hZ.str (117, "the place is not in the field") (by decide +kernel)
      exact vx_throwS (rest := []) (mc := 1) (ms := 6) hx hb hl9 (own := "TileBins") (cls := "java/lang/IllegalArgumentException") (text := "the place is not in the field") (names := ["java/lang/RuntimeException", "java/lang/Exception"]) hown (by decide +kernel) (by decide +kernel) (hts _ kw_103) (hts _ kw_27) hsa_6 (vx_hat (fun w hw => hts w (hx_Aa w hw)) hx_Ab hZ.bad) hx_Ac hZ.u hZ.n hS (hl.1.trans hml.symm) dX0_tileOf_24 dX0_tileOf_27 dX0_tileOf_28 dX0_tileOf_30 dX0_tileOf_33 (fun x hx => (hEx x hx).elim) (Nat.le_of_ble_eq_true rfl) (Nat.le_of_ble_eq_true rfl) (Nat.le_of_ble_eq_true rfl) (Nat.le_of_ble_eq_true rfl) hlocks (fun t ha hz hk => ⟨(1, (fw, fh, fs, fc, fl, fe, fi, ft, fo, fa, an, af)), ⟨(show ((1 : Nat), (0 : Int32), ((fw, fh, fs, fc, fl, fe, fi, ft, fo, fa, an, af) : TBA)) = tb_tileOf fw fh fs fc fl fe fi ft fo fa an af a1 a2 by unfold tb_tileOf; rw [if_neg c_1, if_pos c_4]), rfl⟩, ⟨rfl, q1, cA, ro_kept hP hk, va_K.moved ha hK, hD⟩, th_F hS hz hk⟩) hS.2.2 (Nat.le_of_ble_eq_true rfl) (Nat.le_of_ble_eq_true rfl)
    · refine lv_iload_n hx hb dX0_tileOf_12 rfl (lv_at hl 2 rfl) ?_
      refine lv_if_lt (tgt := 24) hx hb dX0_tileOf_13 (by decide) (fun c_7 => ?_) (fun c_7 => ?_)
      · obtain ⟨sa_8, hsa_9⟩ := hZ.str (117, "the place is not in the field") (by decide +kernel)
        exact vx_throwS (rest := []) (mc := 1) (ms := 6) hx hb hl9 (own := "TileBins") (cls := "java/lang/IllegalArgumentException") (text := "the place is not in the field") (names := ["java/lang/RuntimeException", "java/lang/Exception"]) hown (by decide +kernel) (by decide +kernel) (hts _ kw_103) (hts _ kw_27) hsa_9 (vx_hat (fun w hw => hts w (hx_Aa w hw)) hx_Ab hZ.bad) hx_Ac hZ.u hZ.n hS (hl.1.trans hml.symm) dX0_tileOf_24 dX0_tileOf_27 dX0_tileOf_28 dX0_tileOf_30 dX0_tileOf_33 (fun x hx => (hEx x hx).elim) (Nat.le_of_ble_eq_true rfl) (Nat.le_of_ble_eq_true rfl) (Nat.le_of_ble_eq_true rfl) (Nat.le_of_ble_eq_true rfl) hlocks (fun t ha hz hk => ⟨(1, (fw, fh, fs, fc, fl, fe, fi, ft, fo, fa, an, af)), ⟨(show ((1 : Nat), (0 : Int32), ((fw, fh, fs, fc, fl, fe, fi, ft, fo, fa, an, af) : TBA)) = tb_tileOf fw fh fs fc fl fe fi ft fo fa an af a1 a2 by unfold tb_tileOf; rw [if_neg c_1, if_neg c_4, if_pos c_7]), rfl⟩, ⟨rfl, q1, cA, ro_kept hP hk, va_K.moved ha hK, hD⟩, th_F hS hz hk⟩) hS.2.2 (Nat.le_of_ble_eq_true rfl) (Nat.le_of_ble_eq_true rfl)
      · refine lv_iload_n hx hb dX0_tileOf_16 rfl (lv_at hl 2 rfl) ?_
        refine lv_aload_n hx hb dX0_tileOf_17 rfl (lv_at hl 0 rfl) ?_
        refine va_get (D := (dC, dI)) (ci := 0) (v := .int fh) (C := "TileBins") (T := TX0) (N := 11) hx hb hts inX0 hown hK hP 0 rfl rfl 1 (by decide) (hts _ kw_54) (fun _ h9 => h9) rfl dX0_tileOf_18 ?_
        refine lv_icmp_lt (tgt := 34) hx hb dX0_tileOf_21 (by decide) (fun c_10 => ?_) (fun c_10 => ?_)
        · refine lv_iload_n hx hb dX0_tileOf_34 rfl (lv_at hl 2 rfl) ?_
          refine lv_aload_n hx hb dX0_tileOf_35 rfl (lv_at hl 0 rfl) ?_
          refine va_get (D := (dC, dI)) (ci := 0) (v := .int fs) (C := "TileBins") (T := TX0) (N := 11) hx hb hts inX0 hown hK hP 0 rfl rfl 2 (by decide) (hts _ kw_55) (fun _ h9 => h9) rfl dX0_tileOf_36 ?_
          refine lv_ishr hx hb dX0_tileOf_39 ?_
          refine lv_aload_n hx hb dX0_tileOf_40 rfl (lv_at hl 0 rfl) ?_
          refine va_get (D := (dC, dI)) (ci := 0) (v := .int fc) (C := "TileBins") (T := TX0) (N := 11) hx hb hts inX0 hown hK hP 0 rfl rfl 3 (by decide) (hts _ kw_56) (fun _ h9 => h9) rfl dX0_tileOf_41 ?_
          refine lv_imul hx hb dX0_tileOf_44 ?_
          refine lv_iload_n hx hb dX0_tileOf_45 rfl (lv_at hl 1 rfl) ?_
          refine lv_aload_n hx hb dX0_tileOf_46 rfl (lv_at hl 0 rfl) ?_
          refine va_get (D := (dC, dI)) (ci := 0) (v := .int fs) (C := "TileBins") (T := TX0) (N := 11) hx hb hts inX0 hown hK hP 0 rfl rfl 2 (by decide) (hts _ kw_55) (fun _ h9 => h9) rfl dX0_tileOf_47 ?_
          refine lv_ishr hx hb dX0_tileOf_50 ?_
          refine lv_iadd hx hb dX0_tileOf_51 ?_
          refine W.widen (k := 1) (n := 6) (Nat.le_of_ble_eq_true rfl) (Nat.le_of_ble_eq_true rfl) ?_
          refine vx_ret ?_
          exact W.iret (v := ((a2 >>> (fs &&& 31)) * fc) + (a1 >>> (fs &&& 31))) hx hb hr (fun t ht hW => ⟨⟨_, (fw, fh, fs, fc, fl, fe, fi, ft, fo, fa, an, af), rfl, (show ((0, (((a2 >>> (fs &&& 31)) * fc) + (a1 >>> (fs &&& 31)) : Int32), (fw, fh, fs, fc, fl, fe, fi, ft, fo, fa, an, af)) : Nat × Int32 × TBA) = tb_tileOf fw fh fs fc fl fe fi ft fo fa an af a1 a2 by unfold tb_tileOf; rw [if_neg c_1, if_neg c_4, if_neg c_7, if_pos c_10]), q1, cA, by rw [ht]; exact hP, va_K.moved hW.alike hK, hD⟩, hS.F ht⟩) hS.2.2 dX0_tileOf_52
        · obtain ⟨sa_11, hsa_12⟩ := hZ.str (117, "the place is not in the field") (by decide +kernel)
          exact vx_throwS (rest := []) (mc := 1) (ms := 6) hx hb hl9 (own := "TileBins") (cls := "java/lang/IllegalArgumentException") (text := "the place is not in the field") (names := ["java/lang/RuntimeException", "java/lang/Exception"]) hown (by decide +kernel) (by decide +kernel) (hts _ kw_103) (hts _ kw_27) hsa_12 (vx_hat (fun w hw => hts w (hx_Aa w hw)) hx_Ab hZ.bad) hx_Ac hZ.u hZ.n hS (hl.1.trans hml.symm) dX0_tileOf_24 dX0_tileOf_27 dX0_tileOf_28 dX0_tileOf_30 dX0_tileOf_33 (fun x hx => (hEx x hx).elim) (Nat.le_of_ble_eq_true rfl) (Nat.le_of_ble_eq_true rfl) (Nat.le_of_ble_eq_true rfl) (Nat.le_of_ble_eq_true rfl) hlocks (fun t ha hz hk => ⟨(1, (fw, fh, fs, fc, fl, fe, fi, ft, fo, fa, an, af)), ⟨(show ((1 : Nat), (0 : Int32), ((fw, fh, fs, fc, fl, fe, fi, ft, fo, fa, an, af) : TBA)) = tb_tileOf fw fh fs fc fl fe fi ft fo fa an af a1 a2 by unfold tb_tileOf; rw [if_neg c_1, if_neg c_4, if_neg c_7, if_neg c_10]), rfl⟩, ⟨rfl, q1, cA, ro_kept hP hk, va_K.moved ha hK, hD⟩, th_F hS hz hk⟩) hS.2.2 (Nat.le_of_ble_eq_true rfl) (Nat.le_of_ble_eq_true rfl)
def tb_count (fw fh fs fc fl fe fi ft fo fa : Int32) (an : Nat) (af : Nat → Int32) (a1 : Int32) : Nat × Int32 × TBA := (if a1 = 0 then (0, fi, (fw, fh, fs, fc, fl, fe, fi, ft, fo, fa, an, af)) else (if a1 = 1 then (0, ft, (fw, fh, fs, fc, fl, fe, fi, ft, fo, fa, an, af)) else (if a1 = 2 then (0, fe, (fw, fh, fs, fc, fl, fe, fi, ft, fo, fa, an, af)) else (if a1 = 3 then (0, tb_tiles fc fl, (fw, fh, fs, fc, fl, fe, fi, ft, fo, fa, an, af)) else (if a1 = 4 then (0, fo, (fw, fh, fs, fc, fl, fe, fi, ft, fo, fa, an, af)) else (1, 0, (fw, fh, fs, fc, fl, fe, fi, ft, fo, fa, an, af)))))))
set_option maxHeartbeats 4000000 in
set_option maxRecDepth 100000 in
theorem mtX0_count (l : Launch) (hl9 : l.stackTraces = false) (dC : Nat → ClassId) (dI : Nat → Nat → Nat) (h0 q1 : Nat) (cA : ClassId) (fw fh fs fc fl fe fi ft fo fa : Int32) (an : Nat) (af : Nat → Int32) (sz : Nat) (a1 : Int32) : vx_Met l yX0_count wsX0_count ({ frames := 6, cells := 1, slots := 6, locals := 91 }) (va_Pc [.ref h0, .int a1] (zz_P (dC, dI) vwCl [(h0, .inr (0, [.int fw, .int fh, .int fs, .int fc, .int fl, .int fe, .ref q1, .int fi, .int ft, .int fo, .int fa])), (q1, .inl (cA, an, .inl af))] [(cA, .int)] sz)) (va_Qi (fun (r : Int32) (u : TBA) => (0, r, u) = tb_count fw fh fs fc fl fe fi ft fo fa an af a1) (tbAt (dC, dI) (va_A [(h0, .inr (0, [.int fw, .int fh, .int fs, .int fc, .int fl, .int fe, .ref q1, .int fi, .int ft, .int fo, .int fa])), (q1, .inl (cA, an, .inl af))] sz) h0) (va_A [(h0, .inr (0, [.int fw, .int fh, .int fs, .int fc, .int fl, .int fe, .ref q1, .int fi, .int ft, .int fo, .int fa])), (q1, .inl (cA, an, .inl af))] sz)) (vx_X (fun (u : Nat × TBA) => (u.1, (0 : Int32), u.2) = tb_count fw fh fs fc fl fe fi ft fo fa an af a1 ∧ (u.1 = 1)) (fun E u t => E = tb_exa u.1 ∧ tbAt (dC, dI) (va_A [(h0, .inr (0, [.int fw, .int fh, .int fs, .int fc, .int fl, .int fe, .ref q1, .int fi, .int ft, .int fo, .int fa])), (q1, .inl (cA, an, .inl af))] sz) h0 u.2 t) (va_A [(h0, .inr (0, [.int fw, .int fh, .int fs, .int fc, .int fl, .int fe, .ref q1, .int fi, .int ft, .int fo, .int fa])), (q1, .inl (cA, an, .inl af))] sz)) 1 6 (va_A [(h0, .inr (0, [.int fw, .int fh, .int fs, .int fc, .int fl, .int fe, .ref q1, .int fi, .int ft, .int fo, .int fa])), (q1, .inl (cA, an, .inl af))] sz) := by
  refine vx_ofW (cc := cX0_count) (maxL := 2) (ret := (some .int)) (by decide) rfl ?_
  intro p e s m args below meth c s₁ B hml hEx hv
  obtain ⟨rfl, ⟨hsz, hP, hK, hD0⟩, hZ⟩ := hv
  have hx := B.exec
  have hb := B.bytes
  have hr := B.returns
  have hts : ∀ w ∈ gb, w.before _ s = true := fun w h => atoms_spec (ws := wsX0_count) B.pre w (List.mem_cons_of_mem _ h)
  have hown : s.vm.findClass "TileBins" = some m.cls := findClass_of_methodNamed B.named
  have hlocks := B.notSynchronized
  subst hsz
  have hD := hD0.self (sz := s.heap.size)
  generalize hAe : va_A [(h0, .inr (0, [.int fw, .int fh, .int fs, .int fc, .int fl, .int fe, .ref q1, .int fi, .int ft, .int fo, .int fa])), (q1, .inl (cA, an, .inl af))] s.heap.size = A at hD hZ ⊢
  have hA : ∀ q : Nat, s.heap.size ≤ q → A q := fun q h => by rw [← hAe]; exact Or.inr h
  have hS : va_S A s.heap s.heap [] := va_S.rf
  have hP : va_P (dC, dI) vwCl [(h0, .inr (0, [.int fw, .int fh, .int fs, .int fc, .int fl, .int fe, .ref q1, .int fi, .int ft, .int fo, .int fa])), (q1, .inl (cA, an, .inl af))] s.heap := hP
  have hl := lv_entry ([.ref h0, .int a1]) (n := 2) (Nat.le_of_ble_eq_true rfl)
  rw [lg_entry_eq]
  generalize (lg_sl ([.ref h0, .int a1]) ++ List.replicate (2 - (lg_sl ([.ref h0, .int a1])).length) Slot.unset).toArray = ls at hl ⊢
  have hl : lv_has ls 2 [(0, .ref h0), (1, .int a1)] := hl
  refine lv_iload_n hx hb dX0_count_0 rfl (lv_at hl 1 rfl) ?_
  rcases Classical.em (a1 = 0) with c_1 | c_1
  · refine lv_tableIn (off := 35) (tgt := 36) hx hb dX0_count_1 (by rw [c_1]; decide) (by rw [c_1]; decide) (by rw [c_1]; rfl) (by decide) ?_
    refine lv_aload_n hx hb dX0_count_36 rfl (lv_at hl 0 rfl) ?_
    refine va_get (D := (dC, dI)) (ci := 0) (v := .int fi) (C := "TileBins") (T := TX0) (N := 11) hx hb hts inX0 hown hK hP 0 rfl rfl 7 (by decide) (hts _ kw_60) (fun _ h9 => h9) rfl dX0_count_37 ?_
    refine W.widen (k := 1) (n := 6) (Nat.le_of_ble_eq_true rfl) (Nat.le_of_ble_eq_true rfl) ?_
    refine vx_ret ?_
    exact W.iret (v := fi) hx hb hr (fun t ht hW => ⟨⟨_, (fw, fh, fs, fc, fl, fe, fi, ft, fo, fa, an, af), rfl, (show ((0, (fi : Int32), (fw, fh, fs, fc, fl, fe, fi, ft, fo, fa, an, af)) : Nat × Int32 × TBA) = tb_count fw fh fs fc fl fe fi ft fo fa an af a1 by unfold tb_count; rw [if_pos c_1]), q1, cA, by rw [ht]; exact hP, va_K.moved hW.alike hK, hD⟩, hS.F ht⟩) hS.2.2 dX0_count_40
  · rcases Classical.em (a1 = 1) with c_2 | c_2
    · refine lv_tableIn (off := 40) (tgt := 41) hx hb dX0_count_1 (by rw [c_2]; decide) (by rw [c_2]; decide) (by rw [c_2]; rfl) (by decide) ?_
      refine lv_aload_n hx hb dX0_count_41 rfl (lv_at hl 0 rfl) ?_
      refine va_get (D := (dC, dI)) (ci := 0) (v := .int ft) (C := "TileBins") (T := TX0) (N := 11) hx hb hts inX0 hown hK hP 0 rfl rfl 8 (by decide) (hts _ kw_61) (fun _ h9 => h9) rfl dX0_count_42 ?_
      refine W.widen (k := 1) (n := 6) (Nat.le_of_ble_eq_true rfl) (Nat.le_of_ble_eq_true rfl) ?_
      refine vx_ret ?_
      exact W.iret (v := ft) hx hb hr (fun t ht hW => ⟨⟨_, (fw, fh, fs, fc, fl, fe, fi, ft, fo, fa, an, af), rfl, (show ((0, (ft : Int32), (fw, fh, fs, fc, fl, fe, fi, ft, fo, fa, an, af)) : Nat × Int32 × TBA) = tb_count fw fh fs fc fl fe fi ft fo fa an af a1 by unfold tb_count; rw [if_neg c_1, if_pos c_2]), q1, cA, by rw [ht]; exact hP, va_K.moved hW.alike hK, hD⟩, hS.F ht⟩) hS.2.2 dX0_count_45
    · rcases Classical.em (a1 = 2) with c_3 | c_3
      · refine lv_tableIn (off := 45) (tgt := 46) hx hb dX0_count_1 (by rw [c_3]; decide) (by rw [c_3]; decide) (by rw [c_3]; rfl) (by decide) ?_
        refine lv_aload_n hx hb dX0_count_46 rfl (lv_at hl 0 rfl) ?_
        refine va_get (D := (dC, dI)) (ci := 0) (v := .int fe) (C := "TileBins") (T := TX0) (N := 11) hx hb hts inX0 hown hK hP 0 rfl rfl 5 (by decide) (hts _ kw_58) (fun _ h9 => h9) rfl dX0_count_47 ?_
        refine W.widen (k := 1) (n := 6) (Nat.le_of_ble_eq_true rfl) (Nat.le_of_ble_eq_true rfl) ?_
        refine vx_ret ?_
        exact W.iret (v := fe) hx hb hr (fun t ht hW => ⟨⟨_, (fw, fh, fs, fc, fl, fe, fi, ft, fo, fa, an, af), rfl, (show ((0, (fe : Int32), (fw, fh, fs, fc, fl, fe, fi, ft, fo, fa, an, af)) : Nat × Int32 × TBA) = tb_count fw fh fs fc fl fe fi ft fo fa an af a1 by unfold tb_count; rw [if_neg c_1, if_neg c_2, if_pos c_3]), q1, cA, by rw [ht]; exact hP, va_K.moved hW.alike hK, hD⟩, hS.F ht⟩) hS.2.2 dX0_count_50
      · rcases Classical.em (a1 = 3) with c_4 | c_4
        · refine lv_tableIn (off := 50) (tgt := 51) hx hb dX0_count_1 (by rw [c_4]; decide) (by rw [c_4]; decide) (by rw [c_4]; rfl) (by decide) ?_
          refine lv_aload_n hx hb dX0_count_51 rfl (lv_at hl 0 rfl) ?_
          refine ro_calli (va_runV (As := []) (rest := []) ⟨hx, hb, hml, hown, hts⟩ (mtX0_tilesInAll l dC dI h0 q1 cA fw fh fs fc fl fe fi ft fo fa an af s.heap.size ) (cwV 0 hts (gb_v kw_176 kw_178 kw_4 kw_22 kw_179) rfl rfl rfl (by decide +kernel) ⟨Nat.le_of_ble_eq_true rfl, Nat.le_of_ble_eq_true rfl⟩) ⟨ro_P.blind, va_recv hK hP (ci := 0) (q0 := 0) rfl rfl, ro_P.at hP hK⟩ rfl rfl hl.1 rfl (lv_room (Nat.le_of_ble_eq_true rfl)) dX0_count_52 ⟨Nat.le_of_ble_eq_true rfl, Nat.le_of_ble_eq_true rfl⟩) hP hS hA (fun H locs hP hS hz hk => ?_)
          refine W.widen (k := 1) (n := 6) (Nat.le_of_ble_eq_true rfl) (Nat.le_of_ble_eq_true rfl) ?_
          refine vx_ret ?_
          exact W.iret (v := tb_tiles fc fl) hx hb hr (fun t ht hW => ⟨⟨_, (fw, fh, fs, fc, fl, fe, fi, ft, fo, fa, an, af), rfl, (show ((0, (tb_tiles fc fl : Int32), (fw, fh, fs, fc, fl, fe, fi, ft, fo, fa, an, af)) : Nat × Int32 × TBA) = tb_count fw fh fs fc fl fe fi ft fo fa an af a1 by unfold tb_count; rw [if_neg c_1, if_neg c_2, if_neg c_3, if_pos c_4]), q1, cA, by rw [ht]; exact hP, va_K.moved hW.alike hK, hD⟩, hS.F ht⟩) hS.2.2 dX0_count_55
        · rcases Classical.em (a1 = 4) with c_5 | c_5
          · refine lv_tableIn (off := 55) (tgt := 56) hx hb dX0_count_1 (by rw [c_5]; decide) (by rw [c_5]; decide) (by rw [c_5]; rfl) (by decide) ?_
            refine lv_aload_n hx hb dX0_count_56 rfl (lv_at hl 0 rfl) ?_
            refine va_get (D := (dC, dI)) (ci := 0) (v := .int fo) (C := "TileBins") (T := TX0) (N := 11) hx hb hts inX0 hown hK hP 0 rfl rfl 9 (by decide) (hts _ kw_62) (fun _ h9 => h9) rfl dX0_count_57 ?_
            refine W.widen (k := 1) (n := 6) (Nat.le_of_ble_eq_true rfl) (Nat.le_of_ble_eq_true rfl) ?_
            refine vx_ret ?_
            exact W.iret (v := fo) hx hb hr (fun t ht hW => ⟨⟨_, (fw, fh, fs, fc, fl, fe, fi, ft, fo, fa, an, af), rfl, (show ((0, (fo : Int32), (fw, fh, fs, fc, fl, fe, fi, ft, fo, fa, an, af)) : Nat × Int32 × TBA) = tb_count fw fh fs fc fl fe fi ft fo fa an af a1 by unfold tb_count; rw [if_neg c_1, if_neg c_2, if_neg c_3, if_neg c_4, if_pos c_5]), q1, cA, by rw [ht]; exact hP, va_K.moved hW.alike hK, hD⟩, hS.F ht⟩) hS.2.2 dX0_count_60
          · refine lv_tableOut (tgt := 61) hx hb dX0_count_1 (sw_out5 c_1 c_2 c_3 c_4 c_5) (by decide) ?_
            obtain ⟨sa_6, hsa_7⟩ := hZ.str (125, "there is a count of 0 to 4") (by decide +kernel)
            exact vx_throwS (rest := []) (mc := 1) (ms := 6) hx hb hl9 (own := "TileBins") (cls := "java/lang/IllegalArgumentException") (text := "there is a count of 0 to 4") (names := ["java/lang/RuntimeException", "java/lang/Exception"]) hown (by decide +kernel) (by decide +kernel) (hts _ kw_103) (hts _ kw_27) hsa_7 (vx_hat (fun w hw => hts w (hx_Aa w hw)) hx_Ab hZ.bad) hx_Ac hZ.u hZ.n hS (hl.1.trans hml.symm) dX0_count_61 dX0_count_64 dX0_count_65 dX0_count_67 dX0_count_70 (fun x hx => (hEx x hx).elim) (Nat.le_of_ble_eq_true rfl) (Nat.le_of_ble_eq_true rfl) (Nat.le_of_ble_eq_true rfl) (Nat.le_of_ble_eq_true rfl) hlocks (fun t ha hz hk => ⟨(1, (fw, fh, fs, fc, fl, fe, fi, ft, fo, fa, an, af)), ⟨(show ((1 : Nat), (0 : Int32), ((fw, fh, fs, fc, fl, fe, fi, ft, fo, fa, an, af) : TBA)) = tb_count fw fh fs fc fl fe fi ft fo fa an af a1 by unfold tb_count; rw [if_neg c_1, if_neg c_2, if_neg c_3, if_neg c_4, if_neg c_5]), rfl⟩, ⟨rfl, q1, cA, ro_kept hP hk, va_K.moved ha hK, hD⟩, th_F hS hz hk⟩) hS.2.2 (Nat.le_of_ble_eq_true rfl) (Nat.le_of_ble_eq_true rfl)
