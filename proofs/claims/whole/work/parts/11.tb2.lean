def tb_touch (fs : Int32) (af : Nat → Int32) (a1 a2 a3 : Int32) : Int32 := (if (a2 + (tb_side fs)) ≤ (af ((a1 * 6) + 0).toNatClampNeg) then 0 else (if (af ((a1 * 6) + 2).toNatClampNeg) ≤ a2 then 0 else (if (a3 + (tb_side fs)) ≤ (af ((a1 * 6) + 1).toNatClampNeg) then 0 else (if (af ((a1 * 6) + 3).toNatClampNeg) ≤ a3 then 0 else 1))))
set_option maxHeartbeats 4000000 in
set_option maxRecDepth 100000 in
theorem mtX0_touches (l : Launch) (dC : Nat → ClassId) (dI : Nat → Nat → Nat) (h0 q1 : Nat) (cA : ClassId) (fw fh fs fc fl fe fi ft fo fa : Int32) (an : Nat) (af : Nat → Int32) (sz : Nat) (a1 a2 a3 : Int32) (j : Nat) (hj : a1 = nI j) (hjb : j * 6 + 5 < an) (han : an < 2 ^ 31) : Met l yX0_touches wsX0_touches ({ frames := 1, cells := 0, slots := 0, locals := 20 }) (va_Pc [.ref h0, .int a1, .int a2, .int a3] (ro_P (dC, dI) vwCl [(h0, .inr (0, [.int fw, .int fh, .int fs, .int fc, .int fl, .int fe, .ref q1, .int fi, .int ft, .int fo, .int fa])), (q1, .inl (cA, an, .inl af))] [(cA, .int)] sz)) (va_Qi (fun (r : Int32) (_ : Unit) => r = tb_touch fs af a1 a2 a3) (fun _ _ => True) (ro_A sz)) 0 0 (ro_A sz) := by
  refine Met.ofW (cc := cX0_touches) (maxL := 5) (ret := (some .boolean)) (by decide) rfl ?_
  intro p e s m args below meth c s₁ B hml hv
  obtain ⟨rfl, hsz, hP, hK⟩ := hv
  have hx := B.exec
  have hb := B.bytes
  have hr := B.returns
  have hts : ∀ w ∈ gb, w.before _ s = true := fun w h => atoms_spec (ws := wsX0_touches) B.pre w (List.mem_cons_of_mem _ h)
  have hown : s.vm.findClass "TileBins" = some m.cls := findClass_of_methodNamed B.named
  have hlocks := B.notSynchronized
  subst hsz
  have hA : ∀ q : Nat, s.heap.size ≤ q → ro_A s.heap.size q := fun q h => h
  have hS : va_S (ro_A s.heap.size) s.heap s.heap [] := va_S.rf
  have hl := lv_entry ([.ref h0, .int a1, .int a2, .int a3]) (n := 5) (Nat.le_of_ble_eq_true rfl)
  rw [lg_entry_eq]
  generalize (lg_sl ([.ref h0, .int a1, .int a2, .int a3]) ++ List.replicate (5 - (lg_sl ([.ref h0, .int a1, .int a2, .int a3])).length) Slot.unset).toArray = ls at hl ⊢
  have hl : lv_has ls 5 [(0, .ref h0), (1, .int a1), (2, .int a2), (3, .int a3)] := hl
  refine lv_iload_n hx hb dX0_touches_0 rfl (lv_at hl 1 rfl) ?_
  refine lv_bipush (v := 6) hx hb dX0_touches_1 (by first | rfl | decide) ?_
  refine lv_imul hx hb dX0_touches_3 ?_
  refine lv_istore (lv' := [(4, .int (a1 * 6)), (0, .ref h0), (1, .int a1), (2, .int a2), (3, .int a3)]) hx hb dX0_touches_4 hl (by decide) rfl (fun ls hl => ?_)
  refine lv_aload_n hx hb dX0_touches_6 rfl (lv_at hl 1 rfl) ?_
  refine va_get (D := (dC, dI)) (ci := 0) (v := .ref q1) (C := "TileBins") (T := TX0) (N := 11) hx hb hts inX0 hown hK hP 0 rfl rfl 6 (by decide) (hts _ kw_59) (fun _ h9 => h9) rfl dX0_touches_7 ?_
  refine lv_iload hx hb dX0_touches_10 (lv_at hl 0 rfl) ?_
  refine lv_iconst (v := 0) hx hb dX0_touches_12 (by first | rfl | decide) ?_
  refine lv_iadd hx hb dX0_touches_13 ?_
  refine va_iald hx hb hK hP 1 0 rfl rfl (lm_ix (k := 0) hj (by decide) (by decide) hjb han) dX0_touches_14 ?_
  refine lv_iload_n hx hb dX0_touches_15 rfl (lv_at hl 3 rfl) ?_
  refine lv_aload_n hx hb dX0_touches_16 rfl (lv_at hl 1 rfl) ?_
  refine ro_calli (va_runV (As := []) (rest := [.int a2, .int (af ((a1 * 6) + 0).toNatClampNeg)]) ⟨hx, hb, hml, hown, hts⟩ (mtX0_sideLength l dC dI h0 q1 cA fw fh fs fc fl fe fi ft fo fa an af s.heap.size ) (cwV 0 hts (gb_v kw_256 kw_258 kw_11 kw_22 kw_259) rfl rfl rfl (by decide +kernel) ⟨Nat.le_of_ble_eq_true rfl, Nat.le_of_ble_eq_true rfl⟩) ⟨ro_P.blind, va_recv hK hP (ci := 0) (q0 := 0) rfl rfl, ro_P.at hP hK⟩ rfl rfl hl.1 rfl (lv_room (Nat.le_of_ble_eq_true rfl)) dX0_touches_17 ⟨Nat.le_of_ble_eq_true rfl, Nat.le_of_ble_eq_true rfl⟩) hP hS hA (fun H locs hP hS hz hk => ?_)
  refine lv_iadd hx hb dX0_touches_20 ?_
  refine lv_icmp_ge (tgt := 72) hx hb dX0_touches_21 (by decide) (fun c_1 => ?_) (fun c_1 => ?_)
  · refine lv_iconst (v := 0) hx hb dX0_touches_72 (by first | rfl | decide) ?_
    exact W.zret (v := 0) hx hb hr (by rfl) (fun t ht hW => ⟨⟨_, (), rfl, (show 0 = tb_touch fs af a1 a2 a3 by unfold tb_touch; rw [if_pos c_1]), trivial⟩, hS.F ht⟩) hS.2.2 dX0_touches_73
  · refine lv_iload_n hx hb dX0_touches_24 rfl (lv_at hl 3 rfl) ?_
    refine lv_aload_n hx hb dX0_touches_25 rfl (lv_at hl 1 rfl) ?_
    refine va_get (D := (dC, dI)) (ci := 0) (v := .ref q1) (C := "TileBins") (T := TX0) (N := 11) hx hb hts inX0 hown hK hP 0 rfl rfl 6 (by decide) (hts _ kw_59) (fun _ h9 => h9) rfl dX0_touches_26 ?_
    refine lv_iload hx hb dX0_touches_29 (lv_at hl 0 rfl) ?_
    refine lv_iconst (v := 2) hx hb dX0_touches_31 (by first | rfl | decide) ?_
    refine lv_iadd hx hb dX0_touches_32 ?_
    refine va_iald hx hb hK hP 1 0 rfl rfl (lm_ix (k := 2) hj (by decide) (by decide) hjb han) dX0_touches_33 ?_
    refine lv_icmp_ge (tgt := 72) hx hb dX0_touches_34 (by decide) (fun c_2 => ?_) (fun c_2 => ?_)
    · refine lv_iconst (v := 0) hx hb dX0_touches_72 (by first | rfl | decide) ?_
      exact W.zret (v := 0) hx hb hr (by rfl) (fun t ht hW => ⟨⟨_, (), rfl, (show 0 = tb_touch fs af a1 a2 a3 by unfold tb_touch; rw [if_neg c_1, if_pos c_2]), trivial⟩, hS.F ht⟩) hS.2.2 dX0_touches_73
    · refine lv_aload_n hx hb dX0_touches_37 rfl (lv_at hl 1 rfl) ?_
      refine va_get (D := (dC, dI)) (ci := 0) (v := .ref q1) (C := "TileBins") (T := TX0) (N := 11) hx hb hts inX0 hown hK hP 0 rfl rfl 6 (by decide) (hts _ kw_59) (fun _ h9 => h9) rfl dX0_touches_38 ?_
      refine lv_iload hx hb dX0_touches_41 (lv_at hl 0 rfl) ?_
      refine lv_iconst (v := 1) hx hb dX0_touches_43 (by first | rfl | decide) ?_
      refine lv_iadd hx hb dX0_touches_44 ?_
      refine va_iald hx hb hK hP 1 0 rfl rfl (lm_ix (k := 1) hj (by decide) (by decide) hjb han) dX0_touches_45 ?_
      refine lv_iload_n hx hb dX0_touches_46 rfl (lv_at hl 4 rfl) ?_
      refine lv_aload_n hx hb dX0_touches_47 rfl (lv_at hl 1 rfl) ?_
      refine ro_calli (va_runV (As := []) (rest := [.int a3, .int (af ((a1 * 6) + 1).toNatClampNeg)]) ⟨hx, hb, hml, hown, hts⟩ (mtX0_sideLength l dC dI h0 q1 cA fw fh fs fc fl fe fi ft fo fa an af H.size ) (cwV 0 hts (gb_v kw_256 kw_258 kw_11 kw_22 kw_259) rfl rfl rfl (by decide +kernel) ⟨Nat.le_of_ble_eq_true rfl, Nat.le_of_ble_eq_true rfl⟩) ⟨ro_P.blind, va_recv hK hP (ci := 0) (q0 := 0) rfl rfl, ro_P.at hP hK⟩ rfl rfl hl.1 rfl (lv_room (Nat.le_of_ble_eq_true rfl)) dX0_touches_48 ⟨Nat.le_of_ble_eq_true rfl, Nat.le_of_ble_eq_true rfl⟩) hP hS hA (fun H locs hP hS hz hk => ?_)
      refine lv_iadd hx hb dX0_touches_51 ?_
      refine lv_icmp_ge (tgt := 72) hx hb dX0_touches_52 (by decide) (fun c_3 => ?_) (fun c_3 => ?_)
      · refine lv_iconst (v := 0) hx hb dX0_touches_72 (by first | rfl | decide) ?_
        exact W.zret (v := 0) hx hb hr (by rfl) (fun t ht hW => ⟨⟨_, (), rfl, (show 0 = tb_touch fs af a1 a2 a3 by unfold tb_touch; rw [if_neg c_1, if_neg c_2, if_pos c_3]), trivial⟩, hS.F ht⟩) hS.2.2 dX0_touches_73
      · refine lv_iload_n hx hb dX0_touches_55 rfl (lv_at hl 4 rfl) ?_
        refine lv_aload_n hx hb dX0_touches_56 rfl (lv_at hl 1 rfl) ?_
        refine va_get (D := (dC, dI)) (ci := 0) (v := .ref q1) (C := "TileBins") (T := TX0) (N := 11) hx hb hts inX0 hown hK hP 0 rfl rfl 6 (by decide) (hts _ kw_59) (fun _ h9 => h9) rfl dX0_touches_57 ?_
        refine lv_iload hx hb dX0_touches_60 (lv_at hl 0 rfl) ?_
        refine lv_iconst (v := 3) hx hb dX0_touches_62 (by first | rfl | decide) ?_
        refine lv_iadd hx hb dX0_touches_63 ?_
        refine va_iald hx hb hK hP 1 0 rfl rfl (lm_ix (k := 3) hj (by decide) (by decide) hjb han) dX0_touches_64 ?_
        refine lv_icmp_ge (tgt := 72) hx hb dX0_touches_65 (by decide) (fun c_4 => ?_) (fun c_4 => ?_)
        · refine lv_iconst (v := 0) hx hb dX0_touches_72 (by first | rfl | decide) ?_
          exact W.zret (v := 0) hx hb hr (by rfl) (fun t ht hW => ⟨⟨_, (), rfl, (show 0 = tb_touch fs af a1 a2 a3 by unfold tb_touch; rw [if_neg c_1, if_neg c_2, if_neg c_3, if_pos c_4]), trivial⟩, hS.F ht⟩) hS.2.2 dX0_touches_73
        · refine lv_iconst (v := 1) hx hb dX0_touches_68 (by first | rfl | decide) ?_
          refine lv_goto (tgt := 73) hx hb dX0_touches_69 (by decide) ?_
          exact W.zret (v := 1) hx hb hr (by rfl) (fun t ht hW => ⟨⟨_, (), rfl, (show 1 = tb_touch fs af a1 a2 a3 by unfold tb_touch; rw [if_neg c_1, if_neg c_2, if_neg c_3, if_neg c_4]), trivial⟩, hS.F ht⟩) hS.2.2 dX0_touches_73
/-- how many of the first items touch the tile at (lf, tp) -/
def tb_cnt (fs : Int32) (af : Nat → Int32) (lf tp : Int32) : Nat → Int32
  | 0 => 0
  | j + 1 => if tb_touch fs af (nI j) lf tp = 0 then tb_cnt fs af lf tp j else tb_cnt fs af lf tp j + 1
theorem tb_cnt_s (fs : Int32) (af : Nat → Int32) (lf tp : Int32) (j : Nat) : tb_cnt fs af lf tp (j + 1) = if tb_touch fs af (nI j) lf tp = 0 then tb_cnt fs af lf tp j else tb_cnt fs af lf tp j + 1 := rfl
def tb_many (fs fc fi : Int32) (af : Nat → Int32) (a1 : Int32) : Int32 := tb_cnt fs af (tb_left fs fc a1) (tb_top fs fc a1) fi.toNatClampNeg
set_option maxHeartbeats 4000000 in
set_option maxRecDepth 100000 in
theorem mtX0_itemsTouching (l : Launch) (dC : Nat → ClassId) (dI : Nat → Nat → Nat) (h0 q1 : Nat) (cA : ClassId) (fw fh fs fc fl fe fi ft fo fa : Int32) (an : Nat) (af : Nat → Int32) (sz : Nat) (a1 : Int32) (N : Nat) (hN : fi = nI N) (hNb : N * 6 ≤ an) (han : an < 2 ^ 31) : Met l yX0_itemsTouching wsX0_itemsTouching ({ frames := 2, cells := 0, slots := 0, locals := 44 }) (va_Pc [.ref h0, .int a1] (ro_P (dC, dI) vwCl [(h0, .inr (0, [.int fw, .int fh, .int fs, .int fc, .int fl, .int fe, .ref q1, .int fi, .int ft, .int fo, .int fa])), (q1, .inl (cA, an, .inl af))] [(cA, .int)] sz)) (va_Qi (fun (r : Int32) (_ : Unit) => r = tb_many fs fc fi af a1) (fun _ _ => True) (ro_A sz)) 0 0 (ro_A sz) := by
  refine Met.ofW (cc := cX0_itemsTouching) (maxL := 6) (ret := (some .int)) (by decide) rfl ?_
  intro p e s m args below meth c s₁ B hml hv
  obtain ⟨rfl, hsz, hP, hK⟩ := hv
  have hx := B.exec
  have hb := B.bytes
  have hr := B.returns
  have hts : ∀ w ∈ gb, w.before _ s = true := fun w h => atoms_spec (ws := wsX0_itemsTouching) B.pre w (List.mem_cons_of_mem _ h)
  have hown : s.vm.findClass "TileBins" = some m.cls := findClass_of_methodNamed B.named
  have hlocks := B.notSynchronized
  subst hsz
  have hA : ∀ q : Nat, s.heap.size ≤ q → ro_A s.heap.size q := fun q h => h
  have hS : va_S (ro_A s.heap.size) s.heap s.heap [] := va_S.rf
  have hl := lv_entry ([.ref h0, .int a1]) (n := 6) (Nat.le_of_ble_eq_true rfl)
  rw [lg_entry_eq]
  generalize (lg_sl ([.ref h0, .int a1]) ++ List.replicate (6 - (lg_sl ([.ref h0, .int a1])).length) Slot.unset).toArray = ls at hl ⊢
  have hl : lv_has ls 6 [(0, .ref h0), (1, .int a1)] := hl
  refine lv_aload_n hx hb dX0_itemsTouching_0 rfl (lv_at hl 0 rfl) ?_
  refine lv_iload_n hx hb dX0_itemsTouching_1 rfl (lv_at hl 1 rfl) ?_
  refine ro_calli (va_runV (As := [.int a1]) (rest := []) ⟨hx, hb, hml, hown, hts⟩ (mtX0_leftOf l dC dI h0 q1 cA fw fh fs fc fl fe fi ft fo fa an af s.heap.size a1) (cwV 1 hts (gb_v kw_244 kw_246 kw_8 kw_22 kw_247) rfl rfl rfl (by decide +kernel) ⟨Nat.le_of_ble_eq_true rfl, Nat.le_of_ble_eq_true rfl⟩) ⟨ro_P.blind, va_recv hK hP (ci := 0) (q0 := 0) rfl rfl, ro_P.at hP hK⟩ rfl rfl hl.1 rfl (lv_room (Nat.le_of_ble_eq_true rfl)) dX0_itemsTouching_2 ⟨Nat.le_of_ble_eq_true rfl, Nat.le_of_ble_eq_true rfl⟩) hP hS hA (fun H locs hP hS hz hk => ?_)
  refine lv_istore_n (lv' := [(2, .int (tb_left fs fc a1)), (0, .ref h0), (1, .int a1)]) hx hb dX0_itemsTouching_5 rfl hl (by decide) rfl (fun ls hl => ?_)
  refine lv_aload_n hx hb dX0_itemsTouching_6 rfl (lv_at hl 1 rfl) ?_
  refine lv_iload_n hx hb dX0_itemsTouching_7 rfl (lv_at hl 2 rfl) ?_
  refine ro_calli (va_runV (As := [.int a1]) (rest := []) ⟨hx, hb, hml, hown, hts⟩ (mtX0_topOf l dC dI h0 q1 cA fw fh fs fc fl fe fi ft fo fa an af H.size a1) (cwV 1 hts (gb_v kw_248 kw_250 kw_9 kw_22 kw_251) rfl rfl rfl (by decide +kernel) ⟨Nat.le_of_ble_eq_true rfl, Nat.le_of_ble_eq_true rfl⟩) ⟨ro_P.blind, va_recv hK hP (ci := 0) (q0 := 0) rfl rfl, ro_P.at hP hK⟩ rfl rfl hl.1 rfl (lv_room (Nat.le_of_ble_eq_true rfl)) dX0_itemsTouching_8 ⟨Nat.le_of_ble_eq_true rfl, Nat.le_of_ble_eq_true rfl⟩) hP hS hA (fun H locs hP hS hz hk => ?_)
  refine lv_istore_n (lv' := [(3, .int (tb_top fs fc a1)), (2, .int (tb_left fs fc a1)), (0, .ref h0), (1, .int a1)]) hx hb dX0_itemsTouching_11 rfl hl (by decide) rfl (fun ls hl => ?_)
  refine lv_iconst (v := 0) hx hb dX0_itemsTouching_12 (by first | rfl | decide) ?_
  refine lv_istore (lv' := [(4, .int 0), (3, .int (tb_top fs fc a1)), (2, .int (tb_left fs fc a1)), (0, .ref h0), (1, .int a1)]) hx hb dX0_itemsTouching_13 hl (by decide) rfl (fun ls hl => ?_)
  refine lv_iconst (v := 0) hx hb dX0_itemsTouching_15 (by first | rfl | decide) ?_
  refine lv_istore (lv' := [(5, .int 0), (4, .int 0), (3, .int (tb_top fs fc a1)), (2, .int (tb_left fs fc a1)), (0, .ref h0), (1, .int a1)]) hx hb dX0_itemsTouching_16 hl (by decide) rfl (fun ls hl => ?_)
  refine loopW (pc := 18) (fun d H locs ls => ∃ (j : Nat) (y4 : Int32), j + d = N ∧ y4 = tb_cnt fs af (tb_left fs fc a1) (tb_top fs fc a1) j ∧ va_P (dC, dI) vwCl [(h0, .inr (0, [.int fw, .int fh, .int fs, .int fc, .int fl, .int fe, .ref q1, .int fi, .int ft, .int fo, .int fa])), (q1, .inl (cA, an, .inl af))] H ∧ va_S (ro_A s.heap.size) s.heap H locs ∧ lv_has ls 6 [(5, .int (nI j)), (4, .int y4), (3, .int (tb_top fs fc a1)), (2, .int (tb_left fs fc a1)), (0, .ref h0), (1, .int a1)]) (fun d H locs ls hI ih => ?_) N ⟨0, 0, by omega, rfl, hP, hS, hl⟩
  obtain ⟨j, y4, hjd, hy, hP, hS, hl⟩ := hI
  refine lv_iload hx hb dX0_itemsTouching_18 (lv_at hl 0 rfl) ?_
  refine lv_aload_n hx hb dX0_itemsTouching_20 rfl (lv_at hl 4 rfl) ?_
  refine va_get (D := (dC, dI)) (ci := 0) (v := .int fi) (C := "TileBins") (T := TX0) (N := 11) hx hb hts inX0 hown hK hP 0 rfl rfl 7 (by decide) (hts _ kw_60) (fun _ h9 => h9) rfl dX0_itemsTouching_21 ?_
  refine lv_icmp_ge (tgt := 47) hx hb dX0_itemsTouching_24 (by decide) (fun c_1 => ?_) (fun c_1 => ?_)
  · refine lv_iload hx hb dX0_itemsTouching_47 (lv_at hl 1 rfl) ?_
    exact W.iret (v := y4) hx hb hr (fun t ht hW => ⟨⟨_, (), rfl, (by have hjN := lm_end hN (by omega) (by omega) c_1; rw [hy, hjN]; unfold tb_many; rw [hN, nI_clamp (by omega)]), trivial⟩, hS.F ht⟩) hS.2.2 dX0_itemsTouching_49
  · refine lv_aload_n hx hb dX0_itemsTouching_27 rfl (lv_at hl 4 rfl) ?_
    refine lv_iload hx hb dX0_itemsTouching_28 (lv_at hl 0 rfl) ?_
    refine lv_iload_n hx hb dX0_itemsTouching_30 rfl (lv_at hl 3 rfl) ?_
    refine lv_iload_n hx hb dX0_itemsTouching_31 rfl (lv_at hl 2 rfl) ?_
    refine ro_calli (va_runV (As := [.int (nI j), .int (tb_left fs fc a1), .int (tb_top fs fc a1)]) (rest := []) ⟨hx, hb, hml, hown, hts⟩ (mtX0_touches l dC dI h0 q1 cA fw fh fs fc fl fe fi ft fo fa an af H.size (nI j) (tb_left fs fc a1) (tb_top fs fc a1) j rfl (by have := lm_go hN (by omega) (by omega) c_1; omega) han) (cwV 3 hts (gb_v kw_252 kw_254 kw_10 kw_22 kw_255) rfl rfl rfl (by decide +kernel) ⟨Nat.le_of_ble_eq_true rfl, Nat.le_of_ble_eq_true rfl⟩) ⟨ro_P.blind, va_recv hK hP (ci := 0) (q0 := 0) rfl rfl, ro_P.at hP hK⟩ rfl rfl hl.1 rfl (lv_room (Nat.le_of_ble_eq_true rfl)) dX0_itemsTouching_32 ⟨Nat.le_of_ble_eq_true rfl, Nat.le_of_ble_eq_true rfl⟩) hP hS hA (fun H locs hP hS hz hk => ?_)
    refine lv_if_eq (tgt := 41) hx hb dX0_itemsTouching_35 (by decide) (fun c_2 => ?_) (fun c_2 => ?_)
    · refine lv_iinc (v := (nI j) + 1) (lv' := [(5, .int ((nI j) + 1)), (4, .int y4), (3, .int (tb_top fs fc a1)), (2, .int (tb_left fs fc a1)), (0, .ref h0), (1, .int a1)]) hx hb dX0_itemsTouching_41 hl (k := 0) rfl (by rfl) (by decide) rfl (fun ls hl => ?_)
      refine lv_goto (tgt := 18) hx hb dX0_itemsTouching_44 (by decide) ?_
      rw [nI_1] at hl
      exact ih (d - 1) _ _ _ (by have := lm_go hN (by omega) (by omega) c_1; omega) ⟨j + 1, _, by have := lm_go hN (by omega) (by omega) c_1; omega, (by rw [tb_cnt_s, if_pos c_2, hy]), hP, hS, lv_sub hl [0, 1, 2, 3, 4, 5] rfl⟩
    · refine lv_iinc (v := y4 + 1) (lv' := [(4, .int (y4 + 1)), (5, .int (nI j)), (3, .int (tb_top fs fc a1)), (2, .int (tb_left fs fc a1)), (0, .ref h0), (1, .int a1)]) hx hb dX0_itemsTouching_38 hl (k := 1) rfl (by rfl) (by decide) rfl (fun ls hl => ?_)
      refine lv_iinc (v := (nI j) + 1) (lv' := [(5, .int ((nI j) + 1)), (4, .int (y4 + 1)), (3, .int (tb_top fs fc a1)), (2, .int (tb_left fs fc a1)), (0, .ref h0), (1, .int a1)]) hx hb dX0_itemsTouching_41 hl (k := 1) rfl (by rfl) (by decide) rfl (fun ls hl => ?_)
      refine lv_goto (tgt := 18) hx hb dX0_itemsTouching_44 (by decide) ?_
      rw [nI_1] at hl
      exact ih (d - 1) _ _ _ (by have := lm_go hN (by omega) (by omega) c_1; omega) ⟨j + 1, _, by have := lm_go hN (by omega) (by omega) c_1; omega, (by rw [tb_cnt_s, if_neg c_2, hy]), hP, hS, lv_sub hl [0, 1, 2, 3, 4, 5] rfl⟩
/-- the first item from j on, of d that are left, that touches the tile at (lf, tp) -/
def tb_fst (fs : Int32) (af : Nat → Int32) (lf tp : Int32) : Nat → Nat → Int32
  | 0, _ => -1
  | d + 1, j => if tb_touch fs af (nI j) lf tp = 0 then tb_fst fs af lf tp d (j + 1) else nI j
theorem tb_fst_s (fs : Int32) (af : Nat → Int32) (lf tp : Int32) (d j : Nat) : tb_fst fs af lf tp (d + 1) j = if tb_touch fs af (nI j) lf tp = 0 then tb_fst fs af lf tp d (j + 1) else nI j := rfl
theorem tb_fst_0 (fs : Int32) (af : Nat → Int32) (lf tp : Int32) (j : Nat) : tb_fst fs af lf tp 0 j = -1 := rfl
def tb_find (fs fc fi : Int32) (af : Nat → Int32) (a1 a2 : Int32) : Int32 := tb_fst fs af (tb_left fs fc a1) (tb_top fs fc a1) (fi.toNatClampNeg - a2.toNatClampNeg) a2.toNatClampNeg
set_option maxHeartbeats 4000000 in
set_option maxRecDepth 100000 in
theorem mtX0_firstTouching (l : Launch) (dC : Nat → ClassId) (dI : Nat → Nat → Nat) (h0 q1 : Nat) (cA : ClassId) (fw fh fs fc fl fe fi ft fo fa : Int32) (an : Nat) (af : Nat → Int32) (sz : Nat) (a1 a2 : Int32) (N : Nat) (hN : fi = nI N) (hNb : N * 6 ≤ an) (han : an < 2 ^ 31) (j0 : Nat) (hj0 : a2 = nI j0) (hj0N : j0 ≤ N) : Met l yX0_firstTouching wsX0_firstTouching ({ frames := 2, cells := 0, slots := 0, locals := 44 }) (va_Pc [.ref h0, .int a1, .int a2] (ro_P (dC, dI) vwCl [(h0, .inr (0, [.int fw, .int fh, .int fs, .int fc, .int fl, .int fe, .ref q1, .int fi, .int ft, .int fo, .int fa])), (q1, .inl (cA, an, .inl af))] [(cA, .int)] sz)) (va_Qi (fun (r : Int32) (_ : Unit) => r = tb_find fs fc fi af a1 a2) (fun _ _ => True) (ro_A sz)) 0 0 (ro_A sz) := by
  refine Met.ofW (cc := cX0_firstTouching) (maxL := 6) (ret := (some .int)) (by decide) rfl ?_
  intro p e s m args below meth c s₁ B hml hv
  obtain ⟨rfl, hsz, hP, hK⟩ := hv
  have hx := B.exec
  have hb := B.bytes
  have hr := B.returns
  have hts : ∀ w ∈ gb, w.before _ s = true := fun w h => atoms_spec (ws := wsX0_firstTouching) B.pre w (List.mem_cons_of_mem _ h)
  have hown : s.vm.findClass "TileBins" = some m.cls := findClass_of_methodNamed B.named
  have hlocks := B.notSynchronized
  subst hsz
  have hA : ∀ q : Nat, s.heap.size ≤ q → ro_A s.heap.size q := fun q h => h
  have hS : va_S (ro_A s.heap.size) s.heap s.heap [] := va_S.rf
  have hl := lv_entry ([.ref h0, .int a1, .int a2]) (n := 6) (Nat.le_of_ble_eq_true rfl)
  rw [lg_entry_eq]
  generalize (lg_sl ([.ref h0, .int a1, .int a2]) ++ List.replicate (6 - (lg_sl ([.ref h0, .int a1, .int a2])).length) Slot.unset).toArray = ls at hl ⊢
  have hl : lv_has ls 6 [(0, .ref h0), (1, .int a1), (2, .int a2)] := hl
  refine lv_aload_n hx hb dX0_firstTouching_0 rfl (lv_at hl 0 rfl) ?_
  refine lv_iload_n hx hb dX0_firstTouching_1 rfl (lv_at hl 1 rfl) ?_
  refine ro_calli (va_runV (As := [.int a1]) (rest := []) ⟨hx, hb, hml, hown, hts⟩ (mtX0_leftOf l dC dI h0 q1 cA fw fh fs fc fl fe fi ft fo fa an af s.heap.size a1) (cwV 1 hts (gb_v kw_244 kw_246 kw_8 kw_22 kw_247) rfl rfl rfl (by decide +kernel) ⟨Nat.le_of_ble_eq_true rfl, Nat.le_of_ble_eq_true rfl⟩) ⟨ro_P.blind, va_recv hK hP (ci := 0) (q0 := 0) rfl rfl, ro_P.at hP hK⟩ rfl rfl hl.1 rfl (lv_room (Nat.le_of_ble_eq_true rfl)) dX0_firstTouching_2 ⟨Nat.le_of_ble_eq_true rfl, Nat.le_of_ble_eq_true rfl⟩) hP hS hA (fun H locs hP hS hz hk => ?_)
  refine lv_istore_n (lv' := [(3, .int (tb_left fs fc a1)), (0, .ref h0), (1, .int a1), (2, .int a2)]) hx hb dX0_firstTouching_5 rfl hl (by decide) rfl (fun ls hl => ?_)
  refine lv_aload_n hx hb dX0_firstTouching_6 rfl (lv_at hl 1 rfl) ?_
  refine lv_iload_n hx hb dX0_firstTouching_7 rfl (lv_at hl 2 rfl) ?_
  refine ro_calli (va_runV (As := [.int a1]) (rest := []) ⟨hx, hb, hml, hown, hts⟩ (mtX0_topOf l dC dI h0 q1 cA fw fh fs fc fl fe fi ft fo fa an af H.size a1) (cwV 1 hts (gb_v kw_248 kw_250 kw_9 kw_22 kw_251) rfl rfl rfl (by decide +kernel) ⟨Nat.le_of_ble_eq_true rfl, Nat.le_of_ble_eq_true rfl⟩) ⟨ro_P.blind, va_recv hK hP (ci := 0) (q0 := 0) rfl rfl, ro_P.at hP hK⟩ rfl rfl hl.1 rfl (lv_room (Nat.le_of_ble_eq_true rfl)) dX0_firstTouching_8 ⟨Nat.le_of_ble_eq_true rfl, Nat.le_of_ble_eq_true rfl⟩) hP hS hA (fun H locs hP hS hz hk => ?_)
  refine lv_istore (lv' := [(4, .int (tb_top fs fc a1)), (3, .int (tb_left fs fc a1)), (0, .ref h0), (1, .int a1), (2, .int a2)]) hx hb dX0_firstTouching_11 hl (by decide) rfl (fun ls hl => ?_)
  refine lv_iload_n hx hb dX0_firstTouching_13 rfl (lv_at hl 4 rfl) ?_
  refine lv_istore (lv' := [(5, .int a2), (4, .int (tb_top fs fc a1)), (3, .int (tb_left fs fc a1)), (0, .ref h0), (1, .int a1), (2, .int a2)]) hx hb dX0_firstTouching_14 hl (by decide) rfl (fun ls hl => ?_)
  rw [hj0] at hl
  refine loopW (pc := 16) (fun d H locs ls => ∃ (j : Nat), j + d = N ∧ tb_fst fs af (tb_left fs fc a1) (tb_top fs fc a1) d j = tb_fst fs af (tb_left fs fc a1) (tb_top fs fc a1) (N - j0) j0 ∧ va_P (dC, dI) vwCl [(h0, .inr (0, [.int fw, .int fh, .int fs, .int fc, .int fl, .int fe, .ref q1, .int fi, .int ft, .int fo, .int fa])), (q1, .inl (cA, an, .inl af))] H ∧ va_S (ro_A s.heap.size) s.heap H locs ∧ lv_has ls 6 [(5, .int (nI j)), (4, .int (tb_top fs fc a1)), (3, .int (tb_left fs fc a1)), (0, .ref h0), (1, .int a1), (2, .int (nI j0))]) (fun d H locs ls hI ih => ?_) (N - j0) ⟨j0, by omega, rfl, hP, hS, hl⟩
  obtain ⟨j, hjd, hy, hP, hS, hl⟩ := hI
  refine lv_iload hx hb dX0_firstTouching_16 (lv_at hl 0 rfl) ?_
  refine lv_aload_n hx hb dX0_firstTouching_18 rfl (lv_at hl 3 rfl) ?_
  refine va_get (D := (dC, dI)) (ci := 0) (v := .int fi) (C := "TileBins") (T := TX0) (N := 11) hx hb hts inX0 hown hK hP 0 rfl rfl 7 (by decide) (hts _ kw_60) (fun _ h9 => h9) rfl dX0_firstTouching_19 ?_
  refine lv_icmp_ge (tgt := 46) hx hb dX0_firstTouching_22 (by decide) (fun c_1 => ?_) (fun c_1 => ?_)
  · refine lv_iconst (v := (-1)) hx hb dX0_firstTouching_46 (by first | rfl | decide) ?_
    exact W.iret (v := (-1)) hx hb hr (fun t ht hW => ⟨⟨_, (), rfl, (by show _ = tb_find fs fc fi af a1 a2; unfold tb_find; rw [hN, hj0, nI_clamp (by omega), nI_clamp (by omega), ← hy]; have hjN := lm_end hN (by omega) (by omega) c_1; obtain rfl : d = 0 := (by omega); rw [tb_fst_0]), trivial⟩, hS.F ht⟩) hS.2.2 dX0_firstTouching_47
  · refine lv_aload_n hx hb dX0_firstTouching_25 rfl (lv_at hl 3 rfl) ?_
    refine lv_iload hx hb dX0_firstTouching_26 (lv_at hl 0 rfl) ?_
    refine lv_iload_n hx hb dX0_firstTouching_28 rfl (lv_at hl 2 rfl) ?_
    refine lv_iload hx hb dX0_firstTouching_29 (lv_at hl 1 rfl) ?_
    refine ro_calli (va_runV (As := [.int (nI j), .int (tb_left fs fc a1), .int (tb_top fs fc a1)]) (rest := []) ⟨hx, hb, hml, hown, hts⟩ (mtX0_touches l dC dI h0 q1 cA fw fh fs fc fl fe fi ft fo fa an af H.size (nI j) (tb_left fs fc a1) (tb_top fs fc a1) j rfl (by have := lm_go hN (by omega) (by omega) c_1; omega) han) (cwV 3 hts (gb_v kw_252 kw_254 kw_10 kw_22 kw_255) rfl rfl rfl (by decide +kernel) ⟨Nat.le_of_ble_eq_true rfl, Nat.le_of_ble_eq_true rfl⟩) ⟨ro_P.blind, va_recv hK hP (ci := 0) (q0 := 0) rfl rfl, ro_P.at hP hK⟩ rfl rfl hl.1 rfl (lv_room (Nat.le_of_ble_eq_true rfl)) dX0_firstTouching_31 ⟨Nat.le_of_ble_eq_true rfl, Nat.le_of_ble_eq_true rfl⟩) hP hS hA (fun H locs hP hS hz hk => ?_)
    refine lv_if_eq (tgt := 40) hx hb dX0_firstTouching_34 (by decide) (fun c_2 => ?_) (fun c_2 => ?_)
    · refine lv_iinc (v := (nI j) + 1) (lv' := [(5, .int ((nI j) + 1)), (4, .int (tb_top fs fc a1)), (3, .int (tb_left fs fc a1)), (0, .ref h0), (1, .int a1), (2, .int (nI j0))]) hx hb dX0_firstTouching_40 hl (k := 0) rfl (by rfl) (by decide) rfl (fun ls hl => ?_)
      refine lv_goto (tgt := 16) hx hb dX0_firstTouching_43 (by decide) ?_
      rw [nI_1] at hl
      have hlt := lm_go hN (by omega) (by omega) c_1
      obtain ⟨d, rfl⟩ : ∃ z, d = z + 1 := ⟨d - 1, by omega⟩
      refine ih d _ _ _ (by omega) ⟨j + 1, by omega, ?_, hP, hS, lv_sub hl [0, 1, 2, 3, 4, 5] rfl⟩
      rw [← hy, tb_fst_s, if_pos c_2]
    · refine lv_iload hx hb dX0_firstTouching_37 (lv_at hl 0 rfl) ?_
      exact W.iret (v := nI j) hx hb hr (fun t ht hW => ⟨⟨_, (), rfl, (by show _ = tb_find fs fc fi af a1 a2; unfold tb_find; rw [hN, hj0, nI_clamp (by omega), nI_clamp (by omega), ← hy]; have hlt := lm_go hN (by omega) (by omega) c_1; obtain ⟨d, rfl⟩ : ∃ z, d = z + 1 := ⟨d - 1, by omega⟩; rw [tb_fst_s, if_neg c_2]), trivial⟩, hS.F ht⟩) hS.2.2 dX0_firstTouching_39
