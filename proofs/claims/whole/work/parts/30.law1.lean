theorem lm_01 : vp_in 0 1 := by unfold vp_in; decide
/-- what a helper of the law answers: 0 and the answer kept, or the number of what was thrown -/
def hl_post (G : Nat × Int32 × TBA) (ol : Nat → Int64) (r : Int32) (u : TBA × (Nat → Int64)) : Prop :=
  (∃ v : Int32, (0, v, u.1) = G ∧ r = 0 ∧ u.2 = vp_updL ol (0 : Int32).toNatClampNeg v.toInt64) ∨ (∃ k : Nat, (k, (0 : Int32), u.1) = G ∧ r = nI k ∧ (k = 1 ∨ k = 2) ∧ u.2 = ol)
abbrev hlAt (D : va_G) (A : Nat → Prop) (h0 q2 : Nat) (u : TBA × (Nat → Int64)) (t : State) : Prop := match u with
  | ((fw, fh, fs, fc, fl, fe, fi, ft, fo, fa, an, af), ol) => ∃ (q1 : Nat) (cA cJ : ClassId), va_P D vwCl [(h0, .inr (0, [.int fw, .int fh, .int fs, .int fc, .int fl, .int fe, .ref q1, .int fi, .int ft, .int fo, .int fa])), (q1, .inl (cA, an, .inl af)), (q2, .inl (cJ, 1, .inr (.inl ol)))] t.heap ∧ va_K D vwCl [(cA, .int), (cJ, .long)] t ∧ va_D A [(h0, .inr (0, [.int fw, .int fh, .int fs, .int fc, .int fl, .int fe, .ref q1, .int fi, .int ft, .int fo, .int fa])), (q1, .inl (cA, an, .inl af)), (q2, .inl (cJ, 1, .inr (.inl ol)))]
set_option maxHeartbeats 4000000 in
set_option maxRecDepth 100000 in
theorem mtL_field (l : Launch) (hl9 : l.stackTraces = false) (dC : Nat → ClassId) (dI : Nat → Nat → Nat) (h0 q1 q2 : Nat) (cA cJ : ClassId) (fw fh fs fc fl fe fi ft fo fa : Int32) (an : Nat) (af : Nat → Int32) (ol : Nat → Int64) (sz : Nat) (a1 a2 a3 a4 : Int32) : Met l yL_field wsL_field ({ frames := 7, cells := 1, slots := 6, locals := 116 }) (va_Pc [.ref h0, .int a1, .int a2, .int a3, .int a4, .ref q2] (zz_P (dC, dI) vwCl [(h0, .inr (0, [.int fw, .int fh, .int fs, .int fc, .int fl, .int fe, .ref q1, .int fi, .int ft, .int fo, .int fa])), (q1, .inl (cA, an, .inl af)), (q2, .inl (cJ, 1, .inr (.inl ol)))] [(cA, .int), (cJ, .long)] sz)) (va_Qi (hl_post (tb_field fw fh fs fc fl fe fi ft fo fa an af a1 a2 a3 a4) ol) (hlAt (dC, dI) (va_A [(h0, .inr (0, [.int fw, .int fh, .int fs, .int fc, .int fl, .int fe, .ref q1, .int fi, .int ft, .int fo, .int fa])), (q1, .inl (cA, an, .inl af)), (q2, .inl (cJ, 1, .inr (.inl ol)))] sz) h0 q2) (va_A [(h0, .inr (0, [.int fw, .int fh, .int fs, .int fc, .int fl, .int fe, .ref q1, .int fi, .int ft, .int fo, .int fa])), (q1, .inl (cA, an, .inl af)), (q2, .inl (cJ, 1, .inr (.inl ol)))] sz)) 1 6 (va_A [(h0, .inr (0, [.int fw, .int fh, .int fs, .int fc, .int fl, .int fe, .ref q1, .int fi, .int ft, .int fo, .int fa])), (q1, .inl (cA, an, .inl af)), (q2, .inl (cJ, 1, .inr (.inl ol)))] sz) := by
  refine va_MetW (cc := cL_field) (maxL := 7) (ret := (some .int)) (hh := [(0, 14, 17, 13)]) (by decide) rfl ?_
  intro p e s m args below meth c s₁ B hml hv
  obtain ⟨rfl, ⟨hsz, hP, hK, hD0⟩, hZ⟩ := hv
  have hx := B.exec
  have hb := B.bytes
  have hr := B.returns
  have hts0 := atoms_spec (ws := wsL_field) B.pre
  have hTab := vx_table (x := yL_field) B (hts0 _ List.mem_cons_self)
  have hts : ∀ w ∈ gb, w.before _ s = true := fun w h => hts0 w (List.mem_cons_of_mem _ h)
  have hown : s.vm.findClass "TileBinsLaw" = some m.cls := findClass_of_methodNamed B.named
  have hlocks := B.notSynchronized
  subst hsz
  have hD := hD0.self (sz := s.heap.size)
  generalize hAe : va_A [(h0, .inr (0, [.int fw, .int fh, .int fs, .int fc, .int fl, .int fe, .ref q1, .int fi, .int ft, .int fo, .int fa])), (q1, .inl (cA, an, .inl af)), (q2, .inl (cJ, 1, .inr (.inl ol)))] s.heap.size = A at hD hZ ⊢
  have hA : ∀ q : Nat, s.heap.size ≤ q → A q := fun q h => by rw [← hAe]; exact Or.inr h
  have hS : va_S A s.heap s.heap [] := va_S.rf
  have hP : va_P (dC, dI) vwCl [(h0, .inr (0, [.int fw, .int fh, .int fs, .int fc, .int fl, .int fe, .ref q1, .int fi, .int ft, .int fo, .int fa])), (q1, .inl (cA, an, .inl af)), (q2, .inl (cJ, 1, .inr (.inl ol)))] s.heap := hP
  have hl := lv_entry ([.ref h0, .int a1, .int a2, .int a3, .int a4, .ref q2]) (n := 7) (Nat.le_of_ble_eq_true rfl)
  rw [lg_entry_eq]
  generalize (lg_sl ([.ref h0, .int a1, .int a2, .int a3, .int a4, .ref q2]) ++ List.replicate (7 - (lg_sl ([.ref h0, .int a1, .int a2, .int a3, .int a4, .ref q2])).length) Slot.unset).toArray = ls at hl ⊢
  have hl : lv_has ls 7 [(0, .ref h0), (1, .int a1), (2, .int a2), (3, .int a3), (4, .int a4), (5, .ref q2)] := hl
  refine lv_aload hx hb dL_field_0 (lv_at hl 5 rfl) ?_
  refine lv_iconst (v := 0) hx hb dL_field_2 (by first | rfl | decide) ?_
  refine lv_aload_n hx hb dL_field_3 rfl (lv_at hl 0 rfl) ?_
  refine lv_iload_n hx hb dL_field_4 rfl (lv_at hl 1 rfl) ?_
  refine lv_iload_n hx hb dL_field_5 rfl (lv_at hl 2 rfl) ?_
  refine lv_iload_n hx hb dL_field_6 rfl (lv_at hl 3 rfl) ?_
  refine lv_iload hx hb dL_field_7 (lv_at hl 4 rfl) ?_
  have hPc := hP.sub (ws' := [(h0, .inr (0, [.int fw, .int fh, .int fs, .int fc, .int fl, .int fe, .ref q1, .int fi, .int ft, .int fo, .int fa])), (q1, .inl (cA, an, .inl af))]) [0, 1] rfl
  have hDc := hD.sub (ws' := [(h0, .inr (0, [.int fw, .int fh, .int fs, .int fc, .int fl, .int fe, .ref q1, .int fi, .int ft, .int fo, .int fa])), (q1, .inl (cA, an, .inl af))]) [0, 1] (by decide) rfl
  have hKc := hK.sub (tys' := [(cA, .int)]) [0] rfl
  have hFc := va_free (wc := [(h0, .inr (0, [.int fw, .int fh, .int fs, .int fc, .int fl, .int fe, .ref q1, .int fi, .int ft, .int fo, .int fa])), (q1, .inl (cA, an, .inl af))]) hD hS hA [0, 1] rfl
  refine vx_calli (vx_runV (As := [.int a1, .int a2, .int a3, .int a4]) (rest := [.int 0, .ref q2]) ⟨hx, hb, hml, hown, hts⟩ (mtX0_field l hl9 dC dI h0 q1 cA fw fh fs fc fl fe fi ft fo fa an af s.heap.size a1 a2 a3 a4 ) (cwV 4 hts (gb_v kw_96 kw_97 kw_98 kw_22 kw_99) rfl rfl rfl (by decide +kernel) ⟨Nat.le_of_ble_eq_true rfl, Nat.le_of_ble_eq_true rfl⟩) ⟨zz_P.blind, va_recv hKc hPc (ci := 0) (q0 := 0) rfl rfl, zz_P.at hPc hKc hDc (hZ.kept hS.2.1) hFc⟩ rfl rfl hl.1 rfl (lv_room (Nat.le_of_ble_eq_true rfl)) dL_field_9 ⟨Nat.le_of_ble_eq_true rfl, Nat.le_of_ble_eq_true rfl⟩) hS (fun q _ h => hFc q h) hFc (fun q _ h => hFc q h) (fun E ce q9 u t H1 locs ht hvm hw hB hz1 hk1 hS hce hcv hcl => ?_) (fun r u t H1 locs ht hvm hw hB hz1 hk1 hS => ?_)
  · obtain ⟨k9, fw_1, fh_2, fs_3, fc_4, fl_5, fe_6, fi_7, ft_8, fo_9, fa_10, an_11, af_12⟩ := u
    obtain ⟨hw, hk9⟩ := hw
    obtain ⟨rfl, q1_13, cA_14, hP1, hK1, hD1⟩ := hB
    try dsimp only at hw hk9 hcl
    rw [ht] at hP1
    have hK1 := va_K.moved hvm.symm hK1
    obtain ⟨hP, hD⟩ := va_join (wr := [(q2, .inl (cJ, 1, .inr (.inl ol)))]) (w1 := [(h0, .inr (0, [.int fw_1, .int fh_2, .int fs_3, .int fc_4, .int fl_5, .int fe_6, .ref q1_13, .int fi_7, .int ft_8, .int fo_9, .int fa_10])), (q1_13, .inl (cA_14, an_11, .inl af_12))]) hP hD [0, 1] [2] rfl rfl (by decide) (by decide) hk1 hFc hP1 hD1
    have hK := (hK.sub (tys' := [(cJ, .long)]) [1] rfl).app hK1
    generalize H1 = H at hP hS hce ⊢
    have hP : va_P (dC, dI) vwCl [(q2, .inl (cJ, 1, .inr (.inl ol))), (h0, .inr (0, [.int fw_1, .int fh_2, .int fs_3, .int fc_4, .int fl_5, .int fe_6, .ref q1_13, .int fi_7, .int ft_8, .int fo_9, .int fa_10])), (q1_13, .inl (cA_14, an_11, .inl af_12))] H := hP
    have hD : va_D A [(q2, .inl (cJ, 1, .inr (.inl ol))), (h0, .inr (0, [.int fw_1, .int fh_2, .int fs_3, .int fc_4, .int fl_5, .int fe_6, .ref q1_13, .int fi_7, .int ft_8, .int fo_9, .int fa_10])), (q1_13, .inl (cA_14, an_11, .inl af_12))] := hD
    have hK : va_K (dC, dI) vwCl [(cJ, .long), (cA_14, .int)] s := hK
    subst hk9
    refine vx_catch (own := "TileBinsLaw") (name := "java/lang/IllegalArgumentException") (E := "java/lang/IllegalArgumentException") hown [] ⟨0, 14, 17, 13⟩ [] (by rw [hTab]; rfl) (fun z hz => nomatch hz) (by decide) (by decide) (hts _ kw_95) (hZ.bad _ (by decide +kernel)) hce hcv hcl ?_
    refine lv_astore (lv' := [(6, .ref q9), (0, .ref h0), (1, .int a1), (2, .int a2), (3, .int a3), (4, .int a4), (5, .ref q2)]) hx hb dL_field_17 hl (by decide) rfl (fun ls hl => ?_)
    refine lv_iconst (v := 1) hx hb dL_field_19 (by first | rfl | decide) ?_
    have hP := hP.sub (ws' := [(h0, .inr (0, [.int fw_1, .int fh_2, .int fs_3, .int fc_4, .int fl_5, .int fe_6, .ref q1_13, .int fi_7, .int ft_8, .int fo_9, .int fa_10])), (q1_13, .inl (cA_14, an_11, .inl af_12)), (q2, .inl (cJ, 1, .inr (.inl ol)))]) [1, 2, 0] rfl
    have hD := hD.sub (ws' := [(h0, .inr (0, [.int fw_1, .int fh_2, .int fs_3, .int fc_4, .int fl_5, .int fe_6, .ref q1_13, .int fi_7, .int ft_8, .int fo_9, .int fa_10])), (q1_13, .inl (cA_14, an_11, .inl af_12)), (q2, .inl (cJ, 1, .inr (.inl ol)))]) [1, 2, 0] (by decide) rfl
    have hK := hK.sub (tys' := [(cA_14, .int), (cJ, .long)]) [1, 0] rfl
    exact W.iret (v := 1) hx hb hr (fun t ht hW => ⟨⟨_, ((fw_1, fh_2, fs_3, fc_4, fl_5, fe_6, fi_7, ft_8, fo_9, fa_10, an_11, af_12), ol), rfl, (Or.inr ⟨1, hw, by decide, by decide, rfl⟩), q1_13, cA_14, cJ, by rw [ht]; exact hP, va_K.moved hW.alike hK, hD⟩, hS.F ht⟩) hS.2.2 dL_field_20
  · obtain ⟨fw_15, fh_16, fs_17, fc_18, fl_19, fe_20, fi_21, ft_22, fo_23, fa_24, an_25, af_26⟩ := u
    obtain ⟨q1_27, cA_28, hP1, hK1, hD1⟩ := hB
    try dsimp only at hw
    rw [ht] at hP1
    have hK1 := va_K.moved hvm.symm hK1
    obtain ⟨hP, hD⟩ := va_join (wr := [(q2, .inl (cJ, 1, .inr (.inl ol)))]) (w1 := [(h0, .inr (0, [.int fw_15, .int fh_16, .int fs_17, .int fc_18, .int fl_19, .int fe_20, .ref q1_27, .int fi_21, .int ft_22, .int fo_23, .int fa_24])), (q1_27, .inl (cA_28, an_25, .inl af_26))]) hP hD [0, 1] [2] rfl rfl (by decide) (by decide) hk1 hFc hP1 hD1
    have hK := (hK.sub (tys' := [(cJ, .long)]) [1] rfl).app hK1
    generalize H1 = H at hP hS ⊢
    have hP : va_P (dC, dI) vwCl [(q2, .inl (cJ, 1, .inr (.inl ol))), (h0, .inr (0, [.int fw_15, .int fh_16, .int fs_17, .int fc_18, .int fl_19, .int fe_20, .ref q1_27, .int fi_21, .int ft_22, .int fo_23, .int fa_24])), (q1_27, .inl (cA_28, an_25, .inl af_26))] H := hP
    have hD : va_D A [(q2, .inl (cJ, 1, .inr (.inl ol))), (h0, .inr (0, [.int fw_15, .int fh_16, .int fs_17, .int fc_18, .int fl_19, .int fe_20, .ref q1_27, .int fi_21, .int ft_22, .int fo_23, .int fa_24])), (q1_27, .inl (cA_28, an_25, .inl af_26))] := hD
    have hK : va_K (dC, dI) vwCl [(cJ, .long), (cA_28, .int)] s := hK
    refine lv_i2l (v := r.toInt64) hx hb dL_field_12 rfl ?_
    refine va_last hx hb hK hP hD hS 0 0 rfl rfl lm_01 dL_field_13 (fun H locs hP hD hS => ?_)
    have hP : va_P (dC, dI) vwCl [(q2, .inl (cJ, 1, .inr (.inl (vp_updL ol (0 : Int32).toNatClampNeg r.toInt64)))), (h0, .inr (0, [.int fw_15, .int fh_16, .int fs_17, .int fc_18, .int fl_19, .int fe_20, .ref q1_27, .int fi_21, .int ft_22, .int fo_23, .int fa_24])), (q1_27, .inl (cA_28, an_25, .inl af_26))] H := hP
    have hD : va_D A [(q2, .inl (cJ, 1, .inr (.inl (vp_updL ol (0 : Int32).toNatClampNeg r.toInt64)))), (h0, .inr (0, [.int fw_15, .int fh_16, .int fs_17, .int fc_18, .int fl_19, .int fe_20, .ref q1_27, .int fi_21, .int ft_22, .int fo_23, .int fa_24])), (q1_27, .inl (cA_28, an_25, .inl af_26))] := hD
    refine lv_goto (tgt := 21) hx hb dL_field_14 (by decide) ?_
    refine lv_iconst (v := 0) hx hb dL_field_21 (by first | rfl | decide) ?_
    have hP := hP.sub (ws' := [(h0, .inr (0, [.int fw_15, .int fh_16, .int fs_17, .int fc_18, .int fl_19, .int fe_20, .ref q1_27, .int fi_21, .int ft_22, .int fo_23, .int fa_24])), (q1_27, .inl (cA_28, an_25, .inl af_26)), (q2, .inl (cJ, 1, .inr (.inl (vp_updL ol (0 : Int32).toNatClampNeg r.toInt64))))]) [1, 2, 0] rfl
    have hD := hD.sub (ws' := [(h0, .inr (0, [.int fw_15, .int fh_16, .int fs_17, .int fc_18, .int fl_19, .int fe_20, .ref q1_27, .int fi_21, .int ft_22, .int fo_23, .int fa_24])), (q1_27, .inl (cA_28, an_25, .inl af_26)), (q2, .inl (cJ, 1, .inr (.inl (vp_updL ol (0 : Int32).toNatClampNeg r.toInt64))))]) [1, 2, 0] (by decide) rfl
    have hK := hK.sub (tys' := [(cA_28, .int), (cJ, .long)]) [1, 0] rfl
    exact W.iret (v := 0) hx hb hr (fun t ht hW => ⟨⟨_, ((fw_15, fh_16, fs_17, fc_18, fl_19, fe_20, fi_21, ft_22, fo_23, fa_24, an_25, af_26), vp_updL ol (0 : Int32).toNatClampNeg r.toInt64), rfl, (Or.inl ⟨r, hw, rfl, rfl⟩), q1_27, cA_28, cJ, by rw [ht]; exact hP, va_K.moved hW.alike hK, hD⟩, hS.F ht⟩) hS.2.2 dL_field_22
set_option maxHeartbeats 4000000 in
set_option maxRecDepth 100000 in
theorem mtL_put (l : Launch) (hl9 : l.stackTraces = false) (dC : Nat → ClassId) (dI : Nat → Nat → Nat) (h0 q1 q2 : Nat) (cA cJ : ClassId) (fw fh fs fc fl fe fi ft fo fa : Int32) (an : Nat) (af : Nat → Int32) (ol : Nat → Int64) (sz : Nat) (a1 a2 a3 a4 a5 : Int32) (N : Nat) (hN : fi = nI N) (hNb : N * 6 ≤ an) (hN5 : N ≤ 511) (han0 : 6 ≤ an) (han : an ≤ 3072) : Met l yL_put wsL_put ({ frames := 7, cells := 1, slots := 6144, locals := 123 }) (va_Pc [.ref h0, .int a1, .int a2, .int a3, .int a4, .int a5, .ref q2] (zz_P (dC, dI) vwCl [(h0, .inr (0, [.int fw, .int fh, .int fs, .int fc, .int fl, .int fe, .ref q1, .int fi, .int ft, .int fo, .int fa])), (q1, .inl (cA, an, .inl af)), (q2, .inl (cJ, 1, .inr (.inl ol)))] [(cA, .int), (cJ, .long)] sz)) (va_Qi (hl_post (tb_put fw fh fs fc fl fe fi ft fo fa an af a1 a2 a3 a4 a5) ol) (hlAt (dC, dI) (va_A [(h0, .inr (0, [.int fw, .int fh, .int fs, .int fc, .int fl, .int fe, .ref q1, .int fi, .int ft, .int fo, .int fa])), (q1, .inl (cA, an, .inl af)), (q2, .inl (cJ, 1, .inr (.inl ol)))] sz) h0 q2) (va_A [(h0, .inr (0, [.int fw, .int fh, .int fs, .int fc, .int fl, .int fe, .ref q1, .int fi, .int ft, .int fo, .int fa])), (q1, .inl (cA, an, .inl af)), (q2, .inl (cJ, 1, .inr (.inl ol)))] sz)) 1 6144 (va_A [(h0, .inr (0, [.int fw, .int fh, .int fs, .int fc, .int fl, .int fe, .ref q1, .int fi, .int ft, .int fo, .int fa])), (q1, .inl (cA, an, .inl af)), (q2, .inl (cJ, 1, .inr (.inl ol)))] sz) := by
  refine va_MetW (cc := cL_put) (maxL := 8) (ret := (some .int)) (hh := [(0, 16, 19, 19)]) (by decide) rfl ?_
  intro p e s m args below meth c s₁ B hml hv
  obtain ⟨rfl, ⟨hsz, hP, hK, hD0⟩, hZ⟩ := hv
  have hx := B.exec
  have hb := B.bytes
  have hr := B.returns
  have hts0 := atoms_spec (ws := wsL_put) B.pre
  have hTab := vx_table (x := yL_put) B (hts0 _ List.mem_cons_self)
  have hts : ∀ w ∈ gb, w.before _ s = true := fun w h => hts0 w (List.mem_cons_of_mem _ h)
  have hown : s.vm.findClass "TileBinsLaw" = some m.cls := findClass_of_methodNamed B.named
  have hlocks := B.notSynchronized
  subst hsz
  have hD := hD0.self (sz := s.heap.size)
  generalize hAe : va_A [(h0, .inr (0, [.int fw, .int fh, .int fs, .int fc, .int fl, .int fe, .ref q1, .int fi, .int ft, .int fo, .int fa])), (q1, .inl (cA, an, .inl af)), (q2, .inl (cJ, 1, .inr (.inl ol)))] s.heap.size = A at hD hZ ⊢
  have hA : ∀ q : Nat, s.heap.size ≤ q → A q := fun q h => by rw [← hAe]; exact Or.inr h
  have hS : va_S A s.heap s.heap [] := va_S.rf
  have hP : va_P (dC, dI) vwCl [(h0, .inr (0, [.int fw, .int fh, .int fs, .int fc, .int fl, .int fe, .ref q1, .int fi, .int ft, .int fo, .int fa])), (q1, .inl (cA, an, .inl af)), (q2, .inl (cJ, 1, .inr (.inl ol)))] s.heap := hP
  have hl := lv_entry ([.ref h0, .int a1, .int a2, .int a3, .int a4, .int a5, .ref q2]) (n := 8) (Nat.le_of_ble_eq_true rfl)
  rw [lg_entry_eq]
  generalize (lg_sl ([.ref h0, .int a1, .int a2, .int a3, .int a4, .int a5, .ref q2]) ++ List.replicate (8 - (lg_sl ([.ref h0, .int a1, .int a2, .int a3, .int a4, .int a5, .ref q2])).length) Slot.unset).toArray = ls at hl ⊢
  have hl : lv_has ls 8 [(0, .ref h0), (1, .int a1), (2, .int a2), (3, .int a3), (4, .int a4), (5, .int a5), (6, .ref q2)] := hl
  refine lv_aload hx hb dL_put_0 (lv_at hl 6 rfl) ?_
  refine lv_iconst (v := 0) hx hb dL_put_2 (by first | rfl | decide) ?_
  refine lv_aload_n hx hb dL_put_3 rfl (lv_at hl 0 rfl) ?_
  refine lv_iload_n hx hb dL_put_4 rfl (lv_at hl 1 rfl) ?_
  refine lv_iload_n hx hb dL_put_5 rfl (lv_at hl 2 rfl) ?_
  refine lv_iload_n hx hb dL_put_6 rfl (lv_at hl 3 rfl) ?_
  refine lv_iload hx hb dL_put_7 (lv_at hl 4 rfl) ?_
  refine lv_iload hx hb dL_put_9 (lv_at hl 5 rfl) ?_
  have hPc := hP.sub (ws' := [(h0, .inr (0, [.int fw, .int fh, .int fs, .int fc, .int fl, .int fe, .ref q1, .int fi, .int ft, .int fo, .int fa])), (q1, .inl (cA, an, .inl af))]) [0, 1] rfl
  have hDc := hD.sub (ws' := [(h0, .inr (0, [.int fw, .int fh, .int fs, .int fc, .int fl, .int fe, .ref q1, .int fi, .int ft, .int fo, .int fa])), (q1, .inl (cA, an, .inl af))]) [0, 1] (by decide) rfl
  have hKc := hK.sub (tys' := [(cA, .int)]) [0] rfl
  have hFc := va_free (wc := [(h0, .inr (0, [.int fw, .int fh, .int fs, .int fc, .int fl, .int fe, .ref q1, .int fi, .int ft, .int fo, .int fa])), (q1, .inl (cA, an, .inl af))]) hD hS hA [0, 1] rfl
  refine vx_calli (vx_runV (As := [.int a1, .int a2, .int a3, .int a4, .int a5]) (rest := [.int 0, .ref q2]) ⟨hx, hb, hml, hown, hts⟩ (mtX0_put l hl9 dC dI h0 q1 cA fw fh fs fc fl fe fi ft fo fa an af s.heap.size a1 a2 a3 a4 a5 N hN hNb hN5 han0 han) (cwV 5 hts (gb_v kw_184 kw_185 kw_186 kw_22 kw_187) rfl rfl rfl (by decide +kernel) ⟨Nat.le_of_ble_eq_true rfl, Nat.le_of_ble_eq_true rfl⟩) ⟨zz_P.blind, va_recv hKc hPc (ci := 0) (q0 := 0) rfl rfl, zz_P.at hPc hKc hDc (hZ.kept hS.2.1) hFc⟩ rfl rfl hl.1 rfl (lv_room (Nat.le_of_ble_eq_true rfl)) dL_put_11 ⟨Nat.le_of_ble_eq_true rfl, Nat.le_of_ble_eq_true rfl⟩) hS (fun q _ h => hFc q h) hFc (fun q _ h => hFc q h) (fun E ce q9 u t H1 locs ht hvm hw hB hz1 hk1 hS hce hcv hcl => ?_) (fun r u t H1 locs ht hvm hw hB hz1 hk1 hS => ?_)
  · obtain ⟨k9, fw_1, fh_2, fs_3, fc_4, fl_5, fe_6, fi_7, ft_8, fo_9, fa_10, an_11, af_12⟩ := u
    obtain ⟨hw, hk9⟩ := hw
    obtain ⟨rfl, q1_13, cA_14, hP1, hK1, hD1⟩ := hB
    try dsimp only at hw hk9 hcl
    rw [ht] at hP1
    have hK1 := va_K.moved hvm.symm hK1
    obtain ⟨hP, hD⟩ := va_join (wr := [(q2, .inl (cJ, 1, .inr (.inl ol)))]) (w1 := [(h0, .inr (0, [.int fw_1, .int fh_2, .int fs_3, .int fc_4, .int fl_5, .int fe_6, .ref q1_13, .int fi_7, .int ft_8, .int fo_9, .int fa_10])), (q1_13, .inl (cA_14, an_11, .inl af_12))]) hP hD [0, 1] [2] rfl rfl (by decide) (by decide) hk1 hFc hP1 hD1
    have hK := (hK.sub (tys' := [(cJ, .long)]) [1] rfl).app hK1
    generalize H1 = H at hP hS hce ⊢
    have hP : va_P (dC, dI) vwCl [(q2, .inl (cJ, 1, .inr (.inl ol))), (h0, .inr (0, [.int fw_1, .int fh_2, .int fs_3, .int fc_4, .int fl_5, .int fe_6, .ref q1_13, .int fi_7, .int ft_8, .int fo_9, .int fa_10])), (q1_13, .inl (cA_14, an_11, .inl af_12))] H := hP
    have hD : va_D A [(q2, .inl (cJ, 1, .inr (.inl ol))), (h0, .inr (0, [.int fw_1, .int fh_2, .int fs_3, .int fc_4, .int fl_5, .int fe_6, .ref q1_13, .int fi_7, .int ft_8, .int fo_9, .int fa_10])), (q1_13, .inl (cA_14, an_11, .inl af_12))] := hD
    have hK : va_K (dC, dI) vwCl [(cJ, .long), (cA_14, .int)] s := hK
    subst hk9
    refine vx_catch (own := "TileBinsLaw") (name := "java/lang/IllegalStateException") (E := "java/lang/IllegalStateException") hown [] ⟨0, 16, 19, 19⟩ [] (by rw [hTab]; rfl) (fun z hz => nomatch hz) (by decide) (by decide) (hts _ kw_183) (hZ.bad _ (by decide +kernel)) hce hcv hcl ?_
    refine lv_astore (lv' := [(7, .ref q9), (0, .ref h0), (1, .int a1), (2, .int a2), (3, .int a3), (4, .int a4), (5, .int a5), (6, .ref q2)]) hx hb dL_put_19 hl (by decide) rfl (fun ls hl => ?_)
    refine lv_iconst (v := 1) hx hb dL_put_21 (by first | rfl | decide) ?_
    have hP := hP.sub (ws' := [(h0, .inr (0, [.int fw_1, .int fh_2, .int fs_3, .int fc_4, .int fl_5, .int fe_6, .ref q1_13, .int fi_7, .int ft_8, .int fo_9, .int fa_10])), (q1_13, .inl (cA_14, an_11, .inl af_12)), (q2, .inl (cJ, 1, .inr (.inl ol)))]) [1, 2, 0] rfl
    have hD := hD.sub (ws' := [(h0, .inr (0, [.int fw_1, .int fh_2, .int fs_3, .int fc_4, .int fl_5, .int fe_6, .ref q1_13, .int fi_7, .int ft_8, .int fo_9, .int fa_10])), (q1_13, .inl (cA_14, an_11, .inl af_12)), (q2, .inl (cJ, 1, .inr (.inl ol)))]) [1, 2, 0] (by decide) rfl
    have hK := hK.sub (tys' := [(cA_14, .int), (cJ, .long)]) [1, 0] rfl
    exact W.iret (v := 1) hx hb hr (fun t ht hW => ⟨⟨_, ((fw_1, fh_2, fs_3, fc_4, fl_5, fe_6, fi_7, ft_8, fo_9, fa_10, an_11, af_12), ol), rfl, (Or.inr ⟨1, hw, by decide, by decide, rfl⟩), q1_13, cA_14, cJ, by rw [ht]; exact hP, va_K.moved hW.alike hK, hD⟩, hS.F ht⟩) hS.2.2 dL_put_22
  · obtain ⟨fw_15, fh_16, fs_17, fc_18, fl_19, fe_20, fi_21, ft_22, fo_23, fa_24, an_25, af_26⟩ := u
    obtain ⟨q1_27, cA_28, hP1, hK1, hD1⟩ := hB
    try dsimp only at hw
    rw [ht] at hP1
    have hK1 := va_K.moved hvm.symm hK1
    obtain ⟨hP, hD⟩ := va_join (wr := [(q2, .inl (cJ, 1, .inr (.inl ol)))]) (w1 := [(h0, .inr (0, [.int fw_15, .int fh_16, .int fs_17, .int fc_18, .int fl_19, .int fe_20, .ref q1_27, .int fi_21, .int ft_22, .int fo_23, .int fa_24])), (q1_27, .inl (cA_28, an_25, .inl af_26))]) hP hD [0, 1] [2] rfl rfl (by decide) (by decide) hk1 hFc hP1 hD1
    have hK := (hK.sub (tys' := [(cJ, .long)]) [1] rfl).app hK1
    generalize H1 = H at hP hS ⊢
    have hP : va_P (dC, dI) vwCl [(q2, .inl (cJ, 1, .inr (.inl ol))), (h0, .inr (0, [.int fw_15, .int fh_16, .int fs_17, .int fc_18, .int fl_19, .int fe_20, .ref q1_27, .int fi_21, .int ft_22, .int fo_23, .int fa_24])), (q1_27, .inl (cA_28, an_25, .inl af_26))] H := hP
    have hD : va_D A [(q2, .inl (cJ, 1, .inr (.inl ol))), (h0, .inr (0, [.int fw_15, .int fh_16, .int fs_17, .int fc_18, .int fl_19, .int fe_20, .ref q1_27, .int fi_21, .int ft_22, .int fo_23, .int fa_24])), (q1_27, .inl (cA_28, an_25, .inl af_26))] := hD
    have hK : va_K (dC, dI) vwCl [(cJ, .long), (cA_28, .int)] s := hK
    refine lv_i2l (v := r.toInt64) hx hb dL_put_14 rfl ?_
    refine va_last hx hb hK hP hD hS 0 0 rfl rfl lm_01 dL_put_15 (fun H locs hP hD hS => ?_)
    have hP : va_P (dC, dI) vwCl [(q2, .inl (cJ, 1, .inr (.inl (vp_updL ol (0 : Int32).toNatClampNeg r.toInt64)))), (h0, .inr (0, [.int fw_15, .int fh_16, .int fs_17, .int fc_18, .int fl_19, .int fe_20, .ref q1_27, .int fi_21, .int ft_22, .int fo_23, .int fa_24])), (q1_27, .inl (cA_28, an_25, .inl af_26))] H := hP
    have hD : va_D A [(q2, .inl (cJ, 1, .inr (.inl (vp_updL ol (0 : Int32).toNatClampNeg r.toInt64)))), (h0, .inr (0, [.int fw_15, .int fh_16, .int fs_17, .int fc_18, .int fl_19, .int fe_20, .ref q1_27, .int fi_21, .int ft_22, .int fo_23, .int fa_24])), (q1_27, .inl (cA_28, an_25, .inl af_26))] := hD
    refine lv_goto (tgt := 23) hx hb dL_put_16 (by decide) ?_
    refine lv_iconst (v := 0) hx hb dL_put_23 (by first | rfl | decide) ?_
    have hP := hP.sub (ws' := [(h0, .inr (0, [.int fw_15, .int fh_16, .int fs_17, .int fc_18, .int fl_19, .int fe_20, .ref q1_27, .int fi_21, .int ft_22, .int fo_23, .int fa_24])), (q1_27, .inl (cA_28, an_25, .inl af_26)), (q2, .inl (cJ, 1, .inr (.inl (vp_updL ol (0 : Int32).toNatClampNeg r.toInt64))))]) [1, 2, 0] rfl
    have hD := hD.sub (ws' := [(h0, .inr (0, [.int fw_15, .int fh_16, .int fs_17, .int fc_18, .int fl_19, .int fe_20, .ref q1_27, .int fi_21, .int ft_22, .int fo_23, .int fa_24])), (q1_27, .inl (cA_28, an_25, .inl af_26)), (q2, .inl (cJ, 1, .inr (.inl (vp_updL ol (0 : Int32).toNatClampNeg r.toInt64))))]) [1, 2, 0] (by decide) rfl
    have hK := hK.sub (tys' := [(cA_28, .int), (cJ, .long)]) [1, 0] rfl
    exact W.iret (v := 0) hx hb hr (fun t ht hW => ⟨⟨_, ((fw_15, fh_16, fs_17, fc_18, fl_19, fe_20, fi_21, ft_22, fo_23, fa_24, an_25, af_26), vp_updL ol (0 : Int32).toNatClampNeg r.toInt64), rfl, (Or.inl ⟨r, hw, rfl, rfl⟩), q1_27, cA_28, cJ, by rw [ht]; exact hP, va_K.moved hW.alike hK, hD⟩, hS.F ht⟩) hS.2.2 dL_put_24
set_option maxHeartbeats 4000000 in
set_option maxRecDepth 100000 in
theorem mtL_open (l : Launch) (hl9 : l.stackTraces = false) (dC : Nat → ClassId) (dI : Nat → Nat → Nat) (h0 q1 q2 : Nat) (cA cJ : ClassId) (fw fh fs fc fl fe fi ft fo fa : Int32) (an : Nat) (af : Nat → Int32) (ol : Nat → Int64) (sz : Nat) (a1 : Int32) (N : Nat) (hN : fi = nI N) (hNb : N * 6 ≤ an) (han : an < 2 ^ 31) : Met l yL_open wsL_open ({ frames := 7, cells := 1, slots := 6, locals := 112 }) (va_Pc [.ref h0, .int a1, .ref q2] (zz_P (dC, dI) vwCl [(h0, .inr (0, [.int fw, .int fh, .int fs, .int fc, .int fl, .int fe, .ref q1, .int fi, .int ft, .int fo, .int fa])), (q1, .inl (cA, an, .inl af)), (q2, .inl (cJ, 1, .inr (.inl ol)))] [(cA, .int), (cJ, .long)] sz)) (va_Qi (hl_post (tb_open fw fh fs fc fl fe fi ft fo fa an af a1) ol) (hlAt (dC, dI) (va_A [(h0, .inr (0, [.int fw, .int fh, .int fs, .int fc, .int fl, .int fe, .ref q1, .int fi, .int ft, .int fo, .int fa])), (q1, .inl (cA, an, .inl af)), (q2, .inl (cJ, 1, .inr (.inl ol)))] sz) h0 q2) (va_A [(h0, .inr (0, [.int fw, .int fh, .int fs, .int fc, .int fl, .int fe, .ref q1, .int fi, .int ft, .int fo, .int fa])), (q1, .inl (cA, an, .inl af)), (q2, .inl (cJ, 1, .inr (.inl ol)))] sz)) 1 6 (va_A [(h0, .inr (0, [.int fw, .int fh, .int fs, .int fc, .int fl, .int fe, .ref q1, .int fi, .int ft, .int fo, .int fa])), (q1, .inl (cA, an, .inl af)), (q2, .inl (cJ, 1, .inr (.inl ol)))] sz) := by
  refine va_MetW (cc := cL_open) (maxL := 4) (ret := (some .int)) (hh := [(0, 9, 12, 13)]) (by decide) rfl ?_
  intro p e s m args below meth c s₁ B hml hv
  obtain ⟨rfl, ⟨hsz, hP, hK, hD0⟩, hZ⟩ := hv
  have hx := B.exec
  have hb := B.bytes
  have hr := B.returns
  have hts0 := atoms_spec (ws := wsL_open) B.pre
  have hTab := vx_table (x := yL_open) B (hts0 _ List.mem_cons_self)
  have hts : ∀ w ∈ gb, w.before _ s = true := fun w h => hts0 w (List.mem_cons_of_mem _ h)
  have hown : s.vm.findClass "TileBinsLaw" = some m.cls := findClass_of_methodNamed B.named
  have hlocks := B.notSynchronized
  subst hsz
  have hD := hD0.self (sz := s.heap.size)
  generalize hAe : va_A [(h0, .inr (0, [.int fw, .int fh, .int fs, .int fc, .int fl, .int fe, .ref q1, .int fi, .int ft, .int fo, .int fa])), (q1, .inl (cA, an, .inl af)), (q2, .inl (cJ, 1, .inr (.inl ol)))] s.heap.size = A at hD hZ ⊢
  have hA : ∀ q : Nat, s.heap.size ≤ q → A q := fun q h => by rw [← hAe]; exact Or.inr h
  have hS : va_S A s.heap s.heap [] := va_S.rf
  have hP : va_P (dC, dI) vwCl [(h0, .inr (0, [.int fw, .int fh, .int fs, .int fc, .int fl, .int fe, .ref q1, .int fi, .int ft, .int fo, .int fa])), (q1, .inl (cA, an, .inl af)), (q2, .inl (cJ, 1, .inr (.inl ol)))] s.heap := hP
  have hl := lv_entry ([.ref h0, .int a1, .ref q2]) (n := 4) (Nat.le_of_ble_eq_true rfl)
  rw [lg_entry_eq]
  generalize (lg_sl ([.ref h0, .int a1, .ref q2]) ++ List.replicate (4 - (lg_sl ([.ref h0, .int a1, .ref q2])).length) Slot.unset).toArray = ls at hl ⊢
  have hl : lv_has ls 4 [(0, .ref h0), (1, .int a1), (2, .ref q2)] := hl
  refine lv_aload_n hx hb dL_open_0 rfl (lv_at hl 2 rfl) ?_
  refine lv_iconst (v := 0) hx hb dL_open_1 (by first | rfl | decide) ?_
  refine lv_aload_n hx hb dL_open_2 rfl (lv_at hl 0 rfl) ?_
  refine lv_iload_n hx hb dL_open_3 rfl (lv_at hl 1 rfl) ?_
  have hPc := hP.sub (ws' := [(h0, .inr (0, [.int fw, .int fh, .int fs, .int fc, .int fl, .int fe, .ref q1, .int fi, .int ft, .int fo, .int fa])), (q1, .inl (cA, an, .inl af))]) [0, 1] rfl
  have hDc := hD.sub (ws' := [(h0, .inr (0, [.int fw, .int fh, .int fs, .int fc, .int fl, .int fe, .ref q1, .int fi, .int ft, .int fo, .int fa])), (q1, .inl (cA, an, .inl af))]) [0, 1] (by decide) rfl
  have hKc := hK.sub (tys' := [(cA, .int)]) [0] rfl
  have hFc := va_free (wc := [(h0, .inr (0, [.int fw, .int fh, .int fs, .int fc, .int fl, .int fe, .ref q1, .int fi, .int ft, .int fo, .int fa])), (q1, .inl (cA, an, .inl af))]) hD hS hA [0, 1] rfl
  refine vx_calli (vx_runV (As := [.int a1]) (rest := [.int 0, .ref q2]) ⟨hx, hb, hml, hown, hts⟩ (mtX0_open l hl9 dC dI h0 q1 cA fw fh fs fc fl fe fi ft fo fa an af s.heap.size a1 N hN hNb han) (cwV 1 hts (gb_v kw_231 kw_232 kw_233 kw_22 kw_234) rfl rfl rfl (by decide +kernel) ⟨Nat.le_of_ble_eq_true rfl, Nat.le_of_ble_eq_true rfl⟩) ⟨zz_P.blind, va_recv hKc hPc (ci := 0) (q0 := 0) rfl rfl, zz_P.at hPc hKc hDc (hZ.kept hS.2.1) hFc⟩ rfl rfl hl.1 rfl (lv_room (Nat.le_of_ble_eq_true rfl)) dL_open_4 ⟨Nat.le_of_ble_eq_true rfl, Nat.le_of_ble_eq_true rfl⟩) hS (fun q _ h => hFc q h) hFc (fun q _ h => hFc q h) (fun E ce q9 u t H1 locs ht hvm hw hB hz1 hk1 hS hce hcv hcl => ?_) (fun r u t H1 locs ht hvm hw hB hz1 hk1 hS => ?_)
  · obtain ⟨k9, fw_1, fh_2, fs_3, fc_4, fl_5, fe_6, fi_7, ft_8, fo_9, fa_10, an_11, af_12⟩ := u
    obtain ⟨hw, hk9⟩ := hw
    obtain ⟨rfl, q1_13, cA_14, hP1, hK1, hD1⟩ := hB
    try dsimp only at hw hk9 hcl
    rw [ht] at hP1
    have hK1 := va_K.moved hvm.symm hK1
    obtain ⟨hP, hD⟩ := va_join (wr := [(q2, .inl (cJ, 1, .inr (.inl ol)))]) (w1 := [(h0, .inr (0, [.int fw_1, .int fh_2, .int fs_3, .int fc_4, .int fl_5, .int fe_6, .ref q1_13, .int fi_7, .int ft_8, .int fo_9, .int fa_10])), (q1_13, .inl (cA_14, an_11, .inl af_12))]) hP hD [0, 1] [2] rfl rfl (by decide) (by decide) hk1 hFc hP1 hD1
    have hK := (hK.sub (tys' := [(cJ, .long)]) [1] rfl).app hK1
    generalize H1 = H at hP hS hce ⊢
    have hP : va_P (dC, dI) vwCl [(q2, .inl (cJ, 1, .inr (.inl ol))), (h0, .inr (0, [.int fw_1, .int fh_2, .int fs_3, .int fc_4, .int fl_5, .int fe_6, .ref q1_13, .int fi_7, .int ft_8, .int fo_9, .int fa_10])), (q1_13, .inl (cA_14, an_11, .inl af_12))] H := hP
    have hD : va_D A [(q2, .inl (cJ, 1, .inr (.inl ol))), (h0, .inr (0, [.int fw_1, .int fh_2, .int fs_3, .int fc_4, .int fl_5, .int fe_6, .ref q1_13, .int fi_7, .int ft_8, .int fo_9, .int fa_10])), (q1_13, .inl (cA_14, an_11, .inl af_12))] := hD
    have hK : va_K (dC, dI) vwCl [(cJ, .long), (cA_14, .int)] s := hK
    subst hk9
    refine vx_catch (own := "TileBinsLaw") (name := "java/lang/IllegalArgumentException") (E := "java/lang/IllegalArgumentException") hown [] ⟨0, 9, 12, 13⟩ [] (by rw [hTab]; rfl) (fun z hz => nomatch hz) (by decide) (by decide) (hts _ kw_95) (hZ.bad _ (by decide +kernel)) hce hcv hcl ?_
    refine lv_astore_n (lv' := [(3, .ref q9), (0, .ref h0), (1, .int a1), (2, .ref q2)]) hx hb dL_open_12 rfl hl (by decide) rfl (fun ls hl => ?_)
    refine lv_iconst (v := 1) hx hb dL_open_13 (by first | rfl | decide) ?_
    have hP := hP.sub (ws' := [(h0, .inr (0, [.int fw_1, .int fh_2, .int fs_3, .int fc_4, .int fl_5, .int fe_6, .ref q1_13, .int fi_7, .int ft_8, .int fo_9, .int fa_10])), (q1_13, .inl (cA_14, an_11, .inl af_12)), (q2, .inl (cJ, 1, .inr (.inl ol)))]) [1, 2, 0] rfl
    have hD := hD.sub (ws' := [(h0, .inr (0, [.int fw_1, .int fh_2, .int fs_3, .int fc_4, .int fl_5, .int fe_6, .ref q1_13, .int fi_7, .int ft_8, .int fo_9, .int fa_10])), (q1_13, .inl (cA_14, an_11, .inl af_12)), (q2, .inl (cJ, 1, .inr (.inl ol)))]) [1, 2, 0] (by decide) rfl
    have hK := hK.sub (tys' := [(cA_14, .int), (cJ, .long)]) [1, 0] rfl
    exact W.iret (v := 1) hx hb hr (fun t ht hW => ⟨⟨_, ((fw_1, fh_2, fs_3, fc_4, fl_5, fe_6, fi_7, ft_8, fo_9, fa_10, an_11, af_12), ol), rfl, (Or.inr ⟨1, hw, by decide, by decide, rfl⟩), q1_13, cA_14, cJ, by rw [ht]; exact hP, va_K.moved hW.alike hK, hD⟩, hS.F ht⟩) hS.2.2 dL_open_14
  · obtain ⟨fw_15, fh_16, fs_17, fc_18, fl_19, fe_20, fi_21, ft_22, fo_23, fa_24, an_25, af_26⟩ := u
    obtain ⟨q1_27, cA_28, hP1, hK1, hD1⟩ := hB
    try dsimp only at hw
    rw [ht] at hP1
    have hK1 := va_K.moved hvm.symm hK1
    obtain ⟨hP, hD⟩ := va_join (wr := [(q2, .inl (cJ, 1, .inr (.inl ol)))]) (w1 := [(h0, .inr (0, [.int fw_15, .int fh_16, .int fs_17, .int fc_18, .int fl_19, .int fe_20, .ref q1_27, .int fi_21, .int ft_22, .int fo_23, .int fa_24])), (q1_27, .inl (cA_28, an_25, .inl af_26))]) hP hD [0, 1] [2] rfl rfl (by decide) (by decide) hk1 hFc hP1 hD1
    have hK := (hK.sub (tys' := [(cJ, .long)]) [1] rfl).app hK1
    generalize H1 = H at hP hS ⊢
    have hP : va_P (dC, dI) vwCl [(q2, .inl (cJ, 1, .inr (.inl ol))), (h0, .inr (0, [.int fw_15, .int fh_16, .int fs_17, .int fc_18, .int fl_19, .int fe_20, .ref q1_27, .int fi_21, .int ft_22, .int fo_23, .int fa_24])), (q1_27, .inl (cA_28, an_25, .inl af_26))] H := hP
    have hD : va_D A [(q2, .inl (cJ, 1, .inr (.inl ol))), (h0, .inr (0, [.int fw_15, .int fh_16, .int fs_17, .int fc_18, .int fl_19, .int fe_20, .ref q1_27, .int fi_21, .int ft_22, .int fo_23, .int fa_24])), (q1_27, .inl (cA_28, an_25, .inl af_26))] := hD
    have hK : va_K (dC, dI) vwCl [(cJ, .long), (cA_28, .int)] s := hK
    refine lv_i2l (v := r.toInt64) hx hb dL_open_7 rfl ?_
    refine va_last hx hb hK hP hD hS 0 0 rfl rfl lm_01 dL_open_8 (fun H locs hP hD hS => ?_)
    have hP : va_P (dC, dI) vwCl [(q2, .inl (cJ, 1, .inr (.inl (vp_updL ol (0 : Int32).toNatClampNeg r.toInt64)))), (h0, .inr (0, [.int fw_15, .int fh_16, .int fs_17, .int fc_18, .int fl_19, .int fe_20, .ref q1_27, .int fi_21, .int ft_22, .int fo_23, .int fa_24])), (q1_27, .inl (cA_28, an_25, .inl af_26))] H := hP
    have hD : va_D A [(q2, .inl (cJ, 1, .inr (.inl (vp_updL ol (0 : Int32).toNatClampNeg r.toInt64)))), (h0, .inr (0, [.int fw_15, .int fh_16, .int fs_17, .int fc_18, .int fl_19, .int fe_20, .ref q1_27, .int fi_21, .int ft_22, .int fo_23, .int fa_24])), (q1_27, .inl (cA_28, an_25, .inl af_26))] := hD
    refine lv_goto (tgt := 15) hx hb dL_open_9 (by decide) ?_
    refine lv_iconst (v := 0) hx hb dL_open_15 (by first | rfl | decide) ?_
    have hP := hP.sub (ws' := [(h0, .inr (0, [.int fw_15, .int fh_16, .int fs_17, .int fc_18, .int fl_19, .int fe_20, .ref q1_27, .int fi_21, .int ft_22, .int fo_23, .int fa_24])), (q1_27, .inl (cA_28, an_25, .inl af_26)), (q2, .inl (cJ, 1, .inr (.inl (vp_updL ol (0 : Int32).toNatClampNeg r.toInt64))))]) [1, 2, 0] rfl
    have hD := hD.sub (ws' := [(h0, .inr (0, [.int fw_15, .int fh_16, .int fs_17, .int fc_18, .int fl_19, .int fe_20, .ref q1_27, .int fi_21, .int ft_22, .int fo_23, .int fa_24])), (q1_27, .inl (cA_28, an_25, .inl af_26)), (q2, .inl (cJ, 1, .inr (.inl (vp_updL ol (0 : Int32).toNatClampNeg r.toInt64))))]) [1, 2, 0] (by decide) rfl
    have hK := hK.sub (tys' := [(cA_28, .int), (cJ, .long)]) [1, 0] rfl
    exact W.iret (v := 0) hx hb hr (fun t ht hW => ⟨⟨_, ((fw_15, fh_16, fs_17, fc_18, fl_19, fe_20, fi_21, ft_22, fo_23, fa_24, an_25, af_26), vp_updL ol (0 : Int32).toNatClampNeg r.toInt64), rfl, (Or.inl ⟨r, hw, rfl, rfl⟩), q1_27, cA_28, cJ, by rw [ht]; exact hP, va_K.moved hW.alike hK, hD⟩, hS.F ht⟩) hS.2.2 dL_open_16
set_option maxHeartbeats 4000000 in
set_option maxRecDepth 100000 in
theorem mtL_next (l : Launch) (hl9 : l.stackTraces = false) (dC : Nat → ClassId) (dI : Nat → Nat → Nat) (h0 q1 q2 : Nat) (cA cJ : ClassId) (fw fh fs fc fl fe fi ft fo fa : Int32) (an : Nat) (af : Nat → Int32) (ol : Nat → Int64) (sz : Nat)  (N : Nat) (hN : fi = nI N) (hNb : N * 6 ≤ an) (han : an < 2 ^ 31) (a0 : Nat) (ha0 : fa = nI a0) (ha0N : a0 ≤ N) : Met l yL_next wsL_next ({ frames := 7, cells := 1, slots := 6, locals := 112 }) (va_Pc [.ref h0, .ref q2] (zz_P (dC, dI) vwCl [(h0, .inr (0, [.int fw, .int fh, .int fs, .int fc, .int fl, .int fe, .ref q1, .int fi, .int ft, .int fo, .int fa])), (q1, .inl (cA, an, .inl af)), (q2, .inl (cJ, 1, .inr (.inl ol)))] [(cA, .int), (cJ, .long)] sz)) (va_Qi (hl_post (tb_next fw fh fs fc fl fe fi ft fo fa an af) ol) (hlAt (dC, dI) (va_A [(h0, .inr (0, [.int fw, .int fh, .int fs, .int fc, .int fl, .int fe, .ref q1, .int fi, .int ft, .int fo, .int fa])), (q1, .inl (cA, an, .inl af)), (q2, .inl (cJ, 1, .inr (.inl ol)))] sz) h0 q2) (va_A [(h0, .inr (0, [.int fw, .int fh, .int fs, .int fc, .int fl, .int fe, .ref q1, .int fi, .int ft, .int fo, .int fa])), (q1, .inl (cA, an, .inl af)), (q2, .inl (cJ, 1, .inr (.inl ol)))] sz)) 1 6 (va_A [(h0, .inr (0, [.int fw, .int fh, .int fs, .int fc, .int fl, .int fe, .ref q1, .int fi, .int ft, .int fo, .int fa])), (q1, .inl (cA, an, .inl af)), (q2, .inl (cJ, 1, .inr (.inl ol)))] sz) := by
  refine va_MetW (cc := cL_next) (maxL := 3) (ret := (some .int)) (hh := [(0, 8, 11, 19)]) (by decide) rfl ?_
  intro p e s m args below meth c s₁ B hml hv
  obtain ⟨rfl, ⟨hsz, hP, hK, hD0⟩, hZ⟩ := hv
  have hx := B.exec
  have hb := B.bytes
  have hr := B.returns
  have hts0 := atoms_spec (ws := wsL_next) B.pre
  have hTab := vx_table (x := yL_next) B (hts0 _ List.mem_cons_self)
  have hts : ∀ w ∈ gb, w.before _ s = true := fun w h => hts0 w (List.mem_cons_of_mem _ h)
  have hown : s.vm.findClass "TileBinsLaw" = some m.cls := findClass_of_methodNamed B.named
  have hlocks := B.notSynchronized
  subst hsz
  have hD := hD0.self (sz := s.heap.size)
  generalize hAe : va_A [(h0, .inr (0, [.int fw, .int fh, .int fs, .int fc, .int fl, .int fe, .ref q1, .int fi, .int ft, .int fo, .int fa])), (q1, .inl (cA, an, .inl af)), (q2, .inl (cJ, 1, .inr (.inl ol)))] s.heap.size = A at hD hZ ⊢
  have hA : ∀ q : Nat, s.heap.size ≤ q → A q := fun q h => by rw [← hAe]; exact Or.inr h
  have hS : va_S A s.heap s.heap [] := va_S.rf
  have hP : va_P (dC, dI) vwCl [(h0, .inr (0, [.int fw, .int fh, .int fs, .int fc, .int fl, .int fe, .ref q1, .int fi, .int ft, .int fo, .int fa])), (q1, .inl (cA, an, .inl af)), (q2, .inl (cJ, 1, .inr (.inl ol)))] s.heap := hP
  have hl := lv_entry ([.ref h0, .ref q2]) (n := 3) (Nat.le_of_ble_eq_true rfl)
  rw [lg_entry_eq]
  generalize (lg_sl ([.ref h0, .ref q2]) ++ List.replicate (3 - (lg_sl ([.ref h0, .ref q2])).length) Slot.unset).toArray = ls at hl ⊢
  have hl : lv_has ls 3 [(0, .ref h0), (1, .ref q2)] := hl
  refine lv_aload_n hx hb dL_next_0 rfl (lv_at hl 1 rfl) ?_
  refine lv_iconst (v := 0) hx hb dL_next_1 (by first | rfl | decide) ?_
  refine lv_aload_n hx hb dL_next_2 rfl (lv_at hl 0 rfl) ?_
  have hPc := hP.sub (ws' := [(h0, .inr (0, [.int fw, .int fh, .int fs, .int fc, .int fl, .int fe, .ref q1, .int fi, .int ft, .int fo, .int fa])), (q1, .inl (cA, an, .inl af))]) [0, 1] rfl
  have hDc := hD.sub (ws' := [(h0, .inr (0, [.int fw, .int fh, .int fs, .int fc, .int fl, .int fe, .ref q1, .int fi, .int ft, .int fo, .int fa])), (q1, .inl (cA, an, .inl af))]) [0, 1] (by decide) rfl
  have hKc := hK.sub (tys' := [(cA, .int)]) [0] rfl
  have hFc := va_free (wc := [(h0, .inr (0, [.int fw, .int fh, .int fs, .int fc, .int fl, .int fe, .ref q1, .int fi, .int ft, .int fo, .int fa])), (q1, .inl (cA, an, .inl af))]) hD hS hA [0, 1] rfl
  refine vx_calli (vx_runV (As := []) (rest := [.int 0, .ref q2]) ⟨hx, hb, hml, hown, hts⟩ (mtX0_next l hl9 dC dI h0 q1 cA fw fh fs fc fl fe fi ft fo fa an af s.heap.size  N hN hNb han a0 ha0 ha0N) (cwV 0 hts (gb_v kw_263 kw_264 kw_265 kw_22 kw_266) rfl rfl rfl (by decide +kernel) ⟨Nat.le_of_ble_eq_true rfl, Nat.le_of_ble_eq_true rfl⟩) ⟨zz_P.blind, va_recv hKc hPc (ci := 0) (q0 := 0) rfl rfl, zz_P.at hPc hKc hDc (hZ.kept hS.2.1) hFc⟩ rfl rfl hl.1 rfl (lv_room (Nat.le_of_ble_eq_true rfl)) dL_next_3 ⟨Nat.le_of_ble_eq_true rfl, Nat.le_of_ble_eq_true rfl⟩) hS (fun q _ h => hFc q h) hFc (fun q _ h => hFc q h) (fun E ce q9 u t H1 locs ht hvm hw hB hz1 hk1 hS hce hcv hcl => ?_) (fun r u t H1 locs ht hvm hw hB hz1 hk1 hS => ?_)
  · obtain ⟨k9, fw_1, fh_2, fs_3, fc_4, fl_5, fe_6, fi_7, ft_8, fo_9, fa_10, an_11, af_12⟩ := u
    obtain ⟨hw, hk9⟩ := hw
    obtain ⟨rfl, q1_13, cA_14, hP1, hK1, hD1⟩ := hB
    try dsimp only at hw hk9 hcl
    rw [ht] at hP1
    have hK1 := va_K.moved hvm.symm hK1
    obtain ⟨hP, hD⟩ := va_join (wr := [(q2, .inl (cJ, 1, .inr (.inl ol)))]) (w1 := [(h0, .inr (0, [.int fw_1, .int fh_2, .int fs_3, .int fc_4, .int fl_5, .int fe_6, .ref q1_13, .int fi_7, .int ft_8, .int fo_9, .int fa_10])), (q1_13, .inl (cA_14, an_11, .inl af_12))]) hP hD [0, 1] [2] rfl rfl (by decide) (by decide) hk1 hFc hP1 hD1
    have hK := (hK.sub (tys' := [(cJ, .long)]) [1] rfl).app hK1
    generalize H1 = H at hP hS hce ⊢
    have hP : va_P (dC, dI) vwCl [(q2, .inl (cJ, 1, .inr (.inl ol))), (h0, .inr (0, [.int fw_1, .int fh_2, .int fs_3, .int fc_4, .int fl_5, .int fe_6, .ref q1_13, .int fi_7, .int ft_8, .int fo_9, .int fa_10])), (q1_13, .inl (cA_14, an_11, .inl af_12))] H := hP
    have hD : va_D A [(q2, .inl (cJ, 1, .inr (.inl ol))), (h0, .inr (0, [.int fw_1, .int fh_2, .int fs_3, .int fc_4, .int fl_5, .int fe_6, .ref q1_13, .int fi_7, .int ft_8, .int fo_9, .int fa_10])), (q1_13, .inl (cA_14, an_11, .inl af_12))] := hD
    have hK : va_K (dC, dI) vwCl [(cJ, .long), (cA_14, .int)] s := hK
    subst hk9
    refine vx_catch (own := "TileBinsLaw") (name := "java/lang/IllegalStateException") (E := "java/lang/IllegalStateException") hown [] ⟨0, 8, 11, 19⟩ [] (by rw [hTab]; rfl) (fun z hz => nomatch hz) (by decide) (by decide) (hts _ kw_183) (hZ.bad _ (by decide +kernel)) hce hcv hcl ?_
    refine lv_astore_n (lv' := [(2, .ref q9), (0, .ref h0), (1, .ref q2)]) hx hb dL_next_11 rfl hl (by decide) rfl (fun ls hl => ?_)
    refine lv_iconst (v := 1) hx hb dL_next_12 (by first | rfl | decide) ?_
    have hP := hP.sub (ws' := [(h0, .inr (0, [.int fw_1, .int fh_2, .int fs_3, .int fc_4, .int fl_5, .int fe_6, .ref q1_13, .int fi_7, .int ft_8, .int fo_9, .int fa_10])), (q1_13, .inl (cA_14, an_11, .inl af_12)), (q2, .inl (cJ, 1, .inr (.inl ol)))]) [1, 2, 0] rfl
    have hD := hD.sub (ws' := [(h0, .inr (0, [.int fw_1, .int fh_2, .int fs_3, .int fc_4, .int fl_5, .int fe_6, .ref q1_13, .int fi_7, .int ft_8, .int fo_9, .int fa_10])), (q1_13, .inl (cA_14, an_11, .inl af_12)), (q2, .inl (cJ, 1, .inr (.inl ol)))]) [1, 2, 0] (by decide) rfl
    have hK := hK.sub (tys' := [(cA_14, .int), (cJ, .long)]) [1, 0] rfl
    exact W.iret (v := 1) hx hb hr (fun t ht hW => ⟨⟨_, ((fw_1, fh_2, fs_3, fc_4, fl_5, fe_6, fi_7, ft_8, fo_9, fa_10, an_11, af_12), ol), rfl, (Or.inr ⟨1, hw, by decide, by decide, rfl⟩), q1_13, cA_14, cJ, by rw [ht]; exact hP, va_K.moved hW.alike hK, hD⟩, hS.F ht⟩) hS.2.2 dL_next_13
  · obtain ⟨fw_15, fh_16, fs_17, fc_18, fl_19, fe_20, fi_21, ft_22, fo_23, fa_24, an_25, af_26⟩ := u
    obtain ⟨q1_27, cA_28, hP1, hK1, hD1⟩ := hB
    try dsimp only at hw
    rw [ht] at hP1
    have hK1 := va_K.moved hvm.symm hK1
    obtain ⟨hP, hD⟩ := va_join (wr := [(q2, .inl (cJ, 1, .inr (.inl ol)))]) (w1 := [(h0, .inr (0, [.int fw_15, .int fh_16, .int fs_17, .int fc_18, .int fl_19, .int fe_20, .ref q1_27, .int fi_21, .int ft_22, .int fo_23, .int fa_24])), (q1_27, .inl (cA_28, an_25, .inl af_26))]) hP hD [0, 1] [2] rfl rfl (by decide) (by decide) hk1 hFc hP1 hD1
    have hK := (hK.sub (tys' := [(cJ, .long)]) [1] rfl).app hK1
    generalize H1 = H at hP hS ⊢
    have hP : va_P (dC, dI) vwCl [(q2, .inl (cJ, 1, .inr (.inl ol))), (h0, .inr (0, [.int fw_15, .int fh_16, .int fs_17, .int fc_18, .int fl_19, .int fe_20, .ref q1_27, .int fi_21, .int ft_22, .int fo_23, .int fa_24])), (q1_27, .inl (cA_28, an_25, .inl af_26))] H := hP
    have hD : va_D A [(q2, .inl (cJ, 1, .inr (.inl ol))), (h0, .inr (0, [.int fw_15, .int fh_16, .int fs_17, .int fc_18, .int fl_19, .int fe_20, .ref q1_27, .int fi_21, .int ft_22, .int fo_23, .int fa_24])), (q1_27, .inl (cA_28, an_25, .inl af_26))] := hD
    have hK : va_K (dC, dI) vwCl [(cJ, .long), (cA_28, .int)] s := hK
    refine lv_i2l (v := r.toInt64) hx hb dL_next_6 rfl ?_
    refine va_last hx hb hK hP hD hS 0 0 rfl rfl lm_01 dL_next_7 (fun H locs hP hD hS => ?_)
    have hP : va_P (dC, dI) vwCl [(q2, .inl (cJ, 1, .inr (.inl (vp_updL ol (0 : Int32).toNatClampNeg r.toInt64)))), (h0, .inr (0, [.int fw_15, .int fh_16, .int fs_17, .int fc_18, .int fl_19, .int fe_20, .ref q1_27, .int fi_21, .int ft_22, .int fo_23, .int fa_24])), (q1_27, .inl (cA_28, an_25, .inl af_26))] H := hP
    have hD : va_D A [(q2, .inl (cJ, 1, .inr (.inl (vp_updL ol (0 : Int32).toNatClampNeg r.toInt64)))), (h0, .inr (0, [.int fw_15, .int fh_16, .int fs_17, .int fc_18, .int fl_19, .int fe_20, .ref q1_27, .int fi_21, .int ft_22, .int fo_23, .int fa_24])), (q1_27, .inl (cA_28, an_25, .inl af_26))] := hD
    refine lv_goto (tgt := 14) hx hb dL_next_8 (by decide) ?_
    refine lv_iconst (v := 0) hx hb dL_next_14 (by first | rfl | decide) ?_
    have hP := hP.sub (ws' := [(h0, .inr (0, [.int fw_15, .int fh_16, .int fs_17, .int fc_18, .int fl_19, .int fe_20, .ref q1_27, .int fi_21, .int ft_22, .int fo_23, .int fa_24])), (q1_27, .inl (cA_28, an_25, .inl af_26)), (q2, .inl (cJ, 1, .inr (.inl (vp_updL ol (0 : Int32).toNatClampNeg r.toInt64))))]) [1, 2, 0] rfl
    have hD := hD.sub (ws' := [(h0, .inr (0, [.int fw_15, .int fh_16, .int fs_17, .int fc_18, .int fl_19, .int fe_20, .ref q1_27, .int fi_21, .int ft_22, .int fo_23, .int fa_24])), (q1_27, .inl (cA_28, an_25, .inl af_26)), (q2, .inl (cJ, 1, .inr (.inl (vp_updL ol (0 : Int32).toNatClampNeg r.toInt64))))]) [1, 2, 0] (by decide) rfl
    have hK := hK.sub (tys' := [(cA_28, .int), (cJ, .long)]) [1, 0] rfl
    exact W.iret (v := 0) hx hb hr (fun t ht hW => ⟨⟨_, ((fw_15, fh_16, fs_17, fc_18, fl_19, fe_20, fi_21, ft_22, fo_23, fa_24, an_25, af_26), vp_updL ol (0 : Int32).toNatClampNeg r.toInt64), rfl, (Or.inl ⟨r, hw, rfl, rfl⟩), q1_27, cA_28, cJ, by rw [ht]; exact hP, va_K.moved hW.alike hK, hD⟩, hS.F ht⟩) hS.2.2 dL_next_15
set_option maxHeartbeats 4000000 in
set_option maxRecDepth 100000 in
theorem mtL_item (l : Launch) (hl9 : l.stackTraces = false) (dC : Nat → ClassId) (dI : Nat → Nat → Nat) (h0 q1 q2 : Nat) (cA cJ : ClassId) (fw fh fs fc fl fe fi ft fo fa : Int32) (an : Nat) (af : Nat → Int32) (ol : Nat → Int64) (sz : Nat) (a1 a2 : Int32) (N : Nat) (hN : fi = nI N) (hNb : N * 6 ≤ an) (han : an < 2 ^ 31) : Met l yL_item wsL_item ({ frames := 7, cells := 1, slots := 6, locals := 113 }) (va_Pc [.ref h0, .int a1, .int a2, .ref q2] (zz_P (dC, dI) vwCl [(h0, .inr (0, [.int fw, .int fh, .int fs, .int fc, .int fl, .int fe, .ref q1, .int fi, .int ft, .int fo, .int fa])), (q1, .inl (cA, an, .inl af)), (q2, .inl (cJ, 1, .inr (.inl ol)))] [(cA, .int), (cJ, .long)] sz)) (va_Qi (hl_post (tb_item fw fh fs fc fl fe fi ft fo fa an af a1 a2) ol) (hlAt (dC, dI) (va_A [(h0, .inr (0, [.int fw, .int fh, .int fs, .int fc, .int fl, .int fe, .ref q1, .int fi, .int ft, .int fo, .int fa])), (q1, .inl (cA, an, .inl af)), (q2, .inl (cJ, 1, .inr (.inl ol)))] sz) h0 q2) (va_A [(h0, .inr (0, [.int fw, .int fh, .int fs, .int fc, .int fl, .int fe, .ref q1, .int fi, .int ft, .int fo, .int fa])), (q1, .inl (cA, an, .inl af)), (q2, .inl (cJ, 1, .inr (.inl ol)))] sz)) 1 6 (va_A [(h0, .inr (0, [.int fw, .int fh, .int fs, .int fc, .int fl, .int fe, .ref q1, .int fi, .int ft, .int fo, .int fa])), (q1, .inl (cA, an, .inl af)), (q2, .inl (cJ, 1, .inr (.inl ol)))] sz) := by
  refine va_MetW (cc := cL_item) (maxL := 5) (ret := (some .int)) (hh := [(0, 10, 13, 33), (0, 10, 17, 13)]) (by decide) rfl ?_
  intro p e s m args below meth c s₁ B hml hv
  obtain ⟨rfl, ⟨hsz, hP, hK, hD0⟩, hZ⟩ := hv
  have hx := B.exec
  have hb := B.bytes
  have hr := B.returns
  have hts0 := atoms_spec (ws := wsL_item) B.pre
  have hTab := vx_table (x := yL_item) B (hts0 _ List.mem_cons_self)
  have hts : ∀ w ∈ gb, w.before _ s = true := fun w h => hts0 w (List.mem_cons_of_mem _ h)
  have hown : s.vm.findClass "TileBinsLaw" = some m.cls := findClass_of_methodNamed B.named
  have hlocks := B.notSynchronized
  subst hsz
  have hD := hD0.self (sz := s.heap.size)
  generalize hAe : va_A [(h0, .inr (0, [.int fw, .int fh, .int fs, .int fc, .int fl, .int fe, .ref q1, .int fi, .int ft, .int fo, .int fa])), (q1, .inl (cA, an, .inl af)), (q2, .inl (cJ, 1, .inr (.inl ol)))] s.heap.size = A at hD hZ ⊢
  have hA : ∀ q : Nat, s.heap.size ≤ q → A q := fun q h => by rw [← hAe]; exact Or.inr h
  have hS : va_S A s.heap s.heap [] := va_S.rf
  have hP : va_P (dC, dI) vwCl [(h0, .inr (0, [.int fw, .int fh, .int fs, .int fc, .int fl, .int fe, .ref q1, .int fi, .int ft, .int fo, .int fa])), (q1, .inl (cA, an, .inl af)), (q2, .inl (cJ, 1, .inr (.inl ol)))] s.heap := hP
  have hl := lv_entry ([.ref h0, .int a1, .int a2, .ref q2]) (n := 5) (Nat.le_of_ble_eq_true rfl)
  rw [lg_entry_eq]
  generalize (lg_sl ([.ref h0, .int a1, .int a2, .ref q2]) ++ List.replicate (5 - (lg_sl ([.ref h0, .int a1, .int a2, .ref q2])).length) Slot.unset).toArray = ls at hl ⊢
  have hl : lv_has ls 5 [(0, .ref h0), (1, .int a1), (2, .int a2), (3, .ref q2)] := hl
  refine lv_aload_n hx hb dL_item_0 rfl (lv_at hl 3 rfl) ?_
  refine lv_iconst (v := 0) hx hb dL_item_1 (by first | rfl | decide) ?_
  refine lv_aload_n hx hb dL_item_2 rfl (lv_at hl 0 rfl) ?_
  refine lv_iload_n hx hb dL_item_3 rfl (lv_at hl 1 rfl) ?_
  refine lv_iload_n hx hb dL_item_4 rfl (lv_at hl 2 rfl) ?_
  have hPc := hP.sub (ws' := [(h0, .inr (0, [.int fw, .int fh, .int fs, .int fc, .int fl, .int fe, .ref q1, .int fi, .int ft, .int fo, .int fa])), (q1, .inl (cA, an, .inl af))]) [0, 1] rfl
  have hDc := hD.sub (ws' := [(h0, .inr (0, [.int fw, .int fh, .int fs, .int fc, .int fl, .int fe, .ref q1, .int fi, .int ft, .int fo, .int fa])), (q1, .inl (cA, an, .inl af))]) [0, 1] (by decide) rfl
  have hKc := hK.sub (tys' := [(cA, .int)]) [0] rfl
  have hFc := va_free (wc := [(h0, .inr (0, [.int fw, .int fh, .int fs, .int fc, .int fl, .int fe, .ref q1, .int fi, .int ft, .int fo, .int fa])), (q1, .inl (cA, an, .inl af))]) hD hS hA [0, 1] rfl
  refine vx_calli (vx_runV (As := [.int a1, .int a2]) (rest := [.int 0, .ref q2]) ⟨hx, hb, hml, hown, hts⟩ (mtX0_item l hl9 dC dI h0 q1 cA fw fh fs fc fl fe fi ft fo fa an af s.heap.size a1 a2 N hN hNb han) (cwV 2 hts (gb_v kw_276 kw_277 kw_278 kw_22 kw_279) rfl rfl rfl (by decide +kernel) ⟨Nat.le_of_ble_eq_true rfl, Nat.le_of_ble_eq_true rfl⟩) ⟨zz_P.blind, va_recv hKc hPc (ci := 0) (q0 := 0) rfl rfl, zz_P.at hPc hKc hDc (hZ.kept hS.2.1) hFc⟩ rfl rfl hl.1 rfl (lv_room (Nat.le_of_ble_eq_true rfl)) dL_item_5 ⟨Nat.le_of_ble_eq_true rfl, Nat.le_of_ble_eq_true rfl⟩) hS (fun q _ h => hFc q h) hFc (fun q _ h => hFc q h) (fun E ce q9 u t H1 locs ht hvm hw hB hz1 hk1 hS hce hcv hcl => ?_) (fun r u t H1 locs ht hvm hw hB hz1 hk1 hS => ?_)
  · obtain ⟨k9, fw_1, fh_2, fs_3, fc_4, fl_5, fe_6, fi_7, ft_8, fo_9, fa_10, an_11, af_12⟩ := u
    obtain ⟨hw, hk9⟩ := hw
    obtain ⟨rfl, q1_13, cA_14, hP1, hK1, hD1⟩ := hB
    try dsimp only at hw hk9 hcl
    rw [ht] at hP1
    have hK1 := va_K.moved hvm.symm hK1
    obtain ⟨hP, hD⟩ := va_join (wr := [(q2, .inl (cJ, 1, .inr (.inl ol)))]) (w1 := [(h0, .inr (0, [.int fw_1, .int fh_2, .int fs_3, .int fc_4, .int fl_5, .int fe_6, .ref q1_13, .int fi_7, .int ft_8, .int fo_9, .int fa_10])), (q1_13, .inl (cA_14, an_11, .inl af_12))]) hP hD [0, 1] [2] rfl rfl (by decide) (by decide) hk1 hFc hP1 hD1
    have hK := (hK.sub (tys' := [(cJ, .long)]) [1] rfl).app hK1
    generalize H1 = H at hP hS hce ⊢
    have hP : va_P (dC, dI) vwCl [(q2, .inl (cJ, 1, .inr (.inl ol))), (h0, .inr (0, [.int fw_1, .int fh_2, .int fs_3, .int fc_4, .int fl_5, .int fe_6, .ref q1_13, .int fi_7, .int ft_8, .int fo_9, .int fa_10])), (q1_13, .inl (cA_14, an_11, .inl af_12))] H := hP
    have hD : va_D A [(q2, .inl (cJ, 1, .inr (.inl ol))), (h0, .inr (0, [.int fw_1, .int fh_2, .int fs_3, .int fc_4, .int fl_5, .int fe_6, .ref q1_13, .int fi_7, .int ft_8, .int fo_9, .int fa_10])), (q1_13, .inl (cA_14, an_11, .inl af_12))] := hD
    have hK : va_K (dC, dI) vwCl [(cJ, .long), (cA_14, .int)] s := hK
    rcases hk9 with rfl | rfl
    · refine vx_catch (own := "TileBinsLaw") (name := "java/lang/IndexOutOfBoundsException") (E := "java/lang/IndexOutOfBoundsException") hown [] ⟨0, 10, 13, 33⟩ [⟨0, 10, 17, 13⟩] (by rw [hTab]; rfl) (fun z hz => nomatch hz) (by decide) (by decide) (hts _ kw_275) (hZ.bad _ (by decide +kernel)) hce hcv hcl ?_
      refine lv_astore (lv' := [(4, .ref q9), (0, .ref h0), (1, .int a1), (2, .int a2), (3, .ref q2)]) hx hb dL_item_13 hl (by decide) rfl (fun ls hl => ?_)
      refine lv_iconst (v := 1) hx hb dL_item_15 (by first | rfl | decide) ?_
      have hP := hP.sub (ws' := [(h0, .inr (0, [.int fw_1, .int fh_2, .int fs_3, .int fc_4, .int fl_5, .int fe_6, .ref q1_13, .int fi_7, .int ft_8, .int fo_9, .int fa_10])), (q1_13, .inl (cA_14, an_11, .inl af_12)), (q2, .inl (cJ, 1, .inr (.inl ol)))]) [1, 2, 0] rfl
      have hD := hD.sub (ws' := [(h0, .inr (0, [.int fw_1, .int fh_2, .int fs_3, .int fc_4, .int fl_5, .int fe_6, .ref q1_13, .int fi_7, .int ft_8, .int fo_9, .int fa_10])), (q1_13, .inl (cA_14, an_11, .inl af_12)), (q2, .inl (cJ, 1, .inr (.inl ol)))]) [1, 2, 0] (by decide) rfl
      have hK := hK.sub (tys' := [(cA_14, .int), (cJ, .long)]) [1, 0] rfl
      exact W.iret (v := 1) hx hb hr (fun t ht hW => ⟨⟨_, ((fw_1, fh_2, fs_3, fc_4, fl_5, fe_6, fi_7, ft_8, fo_9, fa_10, an_11, af_12), ol), rfl, (Or.inr ⟨1, hw, by decide, by decide, rfl⟩), q1_13, cA_14, cJ, by rw [ht]; exact hP, va_K.moved hW.alike hK, hD⟩, hS.F ht⟩) hS.2.2 dL_item_16
    · refine vx_catch (own := "TileBinsLaw") (name := "java/lang/IllegalArgumentException") (E := "java/lang/IllegalArgumentException") hown [⟨0, 10, 13, 33⟩] ⟨0, 10, 17, 13⟩ [] (by rw [hTab]; rfl) (fun z hz => by rcases List.mem_cons.mp hz with rfl | hz; exact Or.inr ⟨by decide, "java/lang/IndexOutOfBoundsException", hts _ kw_275, hZ.nc⟩; cases hz) (by decide) (by decide) (hts _ kw_95) (hZ.bad _ (by decide +kernel)) hce hcv hcl ?_
      refine lv_astore (lv' := [(4, .ref q9), (0, .ref h0), (1, .int a1), (2, .int a2), (3, .ref q2)]) hx hb dL_item_17 hl (by decide) rfl (fun ls hl => ?_)
      refine lv_iconst (v := 2) hx hb dL_item_19 (by first | rfl | decide) ?_
      have hP := hP.sub (ws' := [(h0, .inr (0, [.int fw_1, .int fh_2, .int fs_3, .int fc_4, .int fl_5, .int fe_6, .ref q1_13, .int fi_7, .int ft_8, .int fo_9, .int fa_10])), (q1_13, .inl (cA_14, an_11, .inl af_12)), (q2, .inl (cJ, 1, .inr (.inl ol)))]) [1, 2, 0] rfl
      have hD := hD.sub (ws' := [(h0, .inr (0, [.int fw_1, .int fh_2, .int fs_3, .int fc_4, .int fl_5, .int fe_6, .ref q1_13, .int fi_7, .int ft_8, .int fo_9, .int fa_10])), (q1_13, .inl (cA_14, an_11, .inl af_12)), (q2, .inl (cJ, 1, .inr (.inl ol)))]) [1, 2, 0] (by decide) rfl
      have hK := hK.sub (tys' := [(cA_14, .int), (cJ, .long)]) [1, 0] rfl
      exact W.iret (v := 2) hx hb hr (fun t ht hW => ⟨⟨_, ((fw_1, fh_2, fs_3, fc_4, fl_5, fe_6, fi_7, ft_8, fo_9, fa_10, an_11, af_12), ol), rfl, (Or.inr ⟨2, hw, by decide, by decide, rfl⟩), q1_13, cA_14, cJ, by rw [ht]; exact hP, va_K.moved hW.alike hK, hD⟩, hS.F ht⟩) hS.2.2 dL_item_20
  · obtain ⟨fw_15, fh_16, fs_17, fc_18, fl_19, fe_20, fi_21, ft_22, fo_23, fa_24, an_25, af_26⟩ := u
    obtain ⟨q1_27, cA_28, hP1, hK1, hD1⟩ := hB
    try dsimp only at hw
    rw [ht] at hP1
    have hK1 := va_K.moved hvm.symm hK1
    obtain ⟨hP, hD⟩ := va_join (wr := [(q2, .inl (cJ, 1, .inr (.inl ol)))]) (w1 := [(h0, .inr (0, [.int fw_15, .int fh_16, .int fs_17, .int fc_18, .int fl_19, .int fe_20, .ref q1_27, .int fi_21, .int ft_22, .int fo_23, .int fa_24])), (q1_27, .inl (cA_28, an_25, .inl af_26))]) hP hD [0, 1] [2] rfl rfl (by decide) (by decide) hk1 hFc hP1 hD1
    have hK := (hK.sub (tys' := [(cJ, .long)]) [1] rfl).app hK1
    generalize H1 = H at hP hS ⊢
    have hP : va_P (dC, dI) vwCl [(q2, .inl (cJ, 1, .inr (.inl ol))), (h0, .inr (0, [.int fw_15, .int fh_16, .int fs_17, .int fc_18, .int fl_19, .int fe_20, .ref q1_27, .int fi_21, .int ft_22, .int fo_23, .int fa_24])), (q1_27, .inl (cA_28, an_25, .inl af_26))] H := hP
    have hD : va_D A [(q2, .inl (cJ, 1, .inr (.inl ol))), (h0, .inr (0, [.int fw_15, .int fh_16, .int fs_17, .int fc_18, .int fl_19, .int fe_20, .ref q1_27, .int fi_21, .int ft_22, .int fo_23, .int fa_24])), (q1_27, .inl (cA_28, an_25, .inl af_26))] := hD
    have hK : va_K (dC, dI) vwCl [(cJ, .long), (cA_28, .int)] s := hK
    refine lv_i2l (v := r.toInt64) hx hb dL_item_8 rfl ?_
    refine va_last hx hb hK hP hD hS 0 0 rfl rfl lm_01 dL_item_9 (fun H locs hP hD hS => ?_)
    have hP : va_P (dC, dI) vwCl [(q2, .inl (cJ, 1, .inr (.inl (vp_updL ol (0 : Int32).toNatClampNeg r.toInt64)))), (h0, .inr (0, [.int fw_15, .int fh_16, .int fs_17, .int fc_18, .int fl_19, .int fe_20, .ref q1_27, .int fi_21, .int ft_22, .int fo_23, .int fa_24])), (q1_27, .inl (cA_28, an_25, .inl af_26))] H := hP
    have hD : va_D A [(q2, .inl (cJ, 1, .inr (.inl (vp_updL ol (0 : Int32).toNatClampNeg r.toInt64)))), (h0, .inr (0, [.int fw_15, .int fh_16, .int fs_17, .int fc_18, .int fl_19, .int fe_20, .ref q1_27, .int fi_21, .int ft_22, .int fo_23, .int fa_24])), (q1_27, .inl (cA_28, an_25, .inl af_26))] := hD
    refine lv_goto (tgt := 21) hx hb dL_item_10 (by decide) ?_
    refine lv_iconst (v := 0) hx hb dL_item_21 (by first | rfl | decide) ?_
    have hP := hP.sub (ws' := [(h0, .inr (0, [.int fw_15, .int fh_16, .int fs_17, .int fc_18, .int fl_19, .int fe_20, .ref q1_27, .int fi_21, .int ft_22, .int fo_23, .int fa_24])), (q1_27, .inl (cA_28, an_25, .inl af_26)), (q2, .inl (cJ, 1, .inr (.inl (vp_updL ol (0 : Int32).toNatClampNeg r.toInt64))))]) [1, 2, 0] rfl
    have hD := hD.sub (ws' := [(h0, .inr (0, [.int fw_15, .int fh_16, .int fs_17, .int fc_18, .int fl_19, .int fe_20, .ref q1_27, .int fi_21, .int ft_22, .int fo_23, .int fa_24])), (q1_27, .inl (cA_28, an_25, .inl af_26)), (q2, .inl (cJ, 1, .inr (.inl (vp_updL ol (0 : Int32).toNatClampNeg r.toInt64))))]) [1, 2, 0] (by decide) rfl
    have hK := hK.sub (tys' := [(cA_28, .int), (cJ, .long)]) [1, 0] rfl
    exact W.iret (v := 0) hx hb hr (fun t ht hW => ⟨⟨_, ((fw_15, fh_16, fs_17, fc_18, fl_19, fe_20, fi_21, ft_22, fo_23, fa_24, an_25, af_26), vp_updL ol (0 : Int32).toNatClampNeg r.toInt64), rfl, (Or.inl ⟨r, hw, rfl, rfl⟩), q1_27, cA_28, cJ, by rw [ht]; exact hP, va_K.moved hW.alike hK, hD⟩, hS.F ht⟩) hS.2.2 dL_item_22
set_option maxHeartbeats 4000000 in
set_option maxRecDepth 100000 in
theorem mtL_tile (l : Launch) (hl9 : l.stackTraces = false) (dC : Nat → ClassId) (dI : Nat → Nat → Nat) (h0 q1 q2 : Nat) (cA cJ : ClassId) (fw fh fs fc fl fe fi ft fo fa : Int32) (an : Nat) (af : Nat → Int32) (ol : Nat → Int64) (sz : Nat) (a1 a2 : Int32) (N : Nat) (hN : fi = nI N) (hNb : N * 6 ≤ an) (han : an < 2 ^ 31) : Met l yL_tile wsL_tile ({ frames := 7, cells := 1, slots := 6, locals := 113 }) (va_Pc [.ref h0, .int a1, .int a2, .ref q2] (zz_P (dC, dI) vwCl [(h0, .inr (0, [.int fw, .int fh, .int fs, .int fc, .int fl, .int fe, .ref q1, .int fi, .int ft, .int fo, .int fa])), (q1, .inl (cA, an, .inl af)), (q2, .inl (cJ, 1, .inr (.inl ol)))] [(cA, .int), (cJ, .long)] sz)) (va_Qi (hl_post (tb_tile fw fh fs fc fl fe fi ft fo fa an af a1 a2) ol) (hlAt (dC, dI) (va_A [(h0, .inr (0, [.int fw, .int fh, .int fs, .int fc, .int fl, .int fe, .ref q1, .int fi, .int ft, .int fo, .int fa])), (q1, .inl (cA, an, .inl af)), (q2, .inl (cJ, 1, .inr (.inl ol)))] sz) h0 q2) (va_A [(h0, .inr (0, [.int fw, .int fh, .int fs, .int fc, .int fl, .int fe, .ref q1, .int fi, .int ft, .int fo, .int fa])), (q1, .inl (cA, an, .inl af)), (q2, .inl (cJ, 1, .inr (.inl ol)))] sz)) 1 6 (va_A [(h0, .inr (0, [.int fw, .int fh, .int fs, .int fc, .int fl, .int fe, .ref q1, .int fi, .int ft, .int fo, .int fa])), (q1, .inl (cA, an, .inl af)), (q2, .inl (cJ, 1, .inr (.inl ol)))] sz) := by
  refine va_MetW (cc := cL_tile) (maxL := 5) (ret := (some .int)) (hh := [(0, 10, 13, 13)]) (by decide) rfl ?_
  intro p e s m args below meth c s₁ B hml hv
  obtain ⟨rfl, ⟨hsz, hP, hK, hD0⟩, hZ⟩ := hv
  have hx := B.exec
  have hb := B.bytes
  have hr := B.returns
  have hts0 := atoms_spec (ws := wsL_tile) B.pre
  have hTab := vx_table (x := yL_tile) B (hts0 _ List.mem_cons_self)
  have hts : ∀ w ∈ gb, w.before _ s = true := fun w h => hts0 w (List.mem_cons_of_mem _ h)
  have hown : s.vm.findClass "TileBinsLaw" = some m.cls := findClass_of_methodNamed B.named
  have hlocks := B.notSynchronized
  subst hsz
  have hD := hD0.self (sz := s.heap.size)
  generalize hAe : va_A [(h0, .inr (0, [.int fw, .int fh, .int fs, .int fc, .int fl, .int fe, .ref q1, .int fi, .int ft, .int fo, .int fa])), (q1, .inl (cA, an, .inl af)), (q2, .inl (cJ, 1, .inr (.inl ol)))] s.heap.size = A at hD hZ ⊢
  have hA : ∀ q : Nat, s.heap.size ≤ q → A q := fun q h => by rw [← hAe]; exact Or.inr h
  have hS : va_S A s.heap s.heap [] := va_S.rf
  have hP : va_P (dC, dI) vwCl [(h0, .inr (0, [.int fw, .int fh, .int fs, .int fc, .int fl, .int fe, .ref q1, .int fi, .int ft, .int fo, .int fa])), (q1, .inl (cA, an, .inl af)), (q2, .inl (cJ, 1, .inr (.inl ol)))] s.heap := hP
  have hl := lv_entry ([.ref h0, .int a1, .int a2, .ref q2]) (n := 5) (Nat.le_of_ble_eq_true rfl)
  rw [lg_entry_eq]
  generalize (lg_sl ([.ref h0, .int a1, .int a2, .ref q2]) ++ List.replicate (5 - (lg_sl ([.ref h0, .int a1, .int a2, .ref q2])).length) Slot.unset).toArray = ls at hl ⊢
  have hl : lv_has ls 5 [(0, .ref h0), (1, .int a1), (2, .int a2), (3, .ref q2)] := hl
  refine lv_aload_n hx hb dL_tile_0 rfl (lv_at hl 3 rfl) ?_
  refine lv_iconst (v := 0) hx hb dL_tile_1 (by first | rfl | decide) ?_
  refine lv_aload_n hx hb dL_tile_2 rfl (lv_at hl 0 rfl) ?_
  refine lv_iload_n hx hb dL_tile_3 rfl (lv_at hl 1 rfl) ?_
  refine lv_iload_n hx hb dL_tile_4 rfl (lv_at hl 2 rfl) ?_
  have hPc := hP.sub (ws' := [(h0, .inr (0, [.int fw, .int fh, .int fs, .int fc, .int fl, .int fe, .ref q1, .int fi, .int ft, .int fo, .int fa])), (q1, .inl (cA, an, .inl af))]) [0, 1] rfl
  have hDc := hD.sub (ws' := [(h0, .inr (0, [.int fw, .int fh, .int fs, .int fc, .int fl, .int fe, .ref q1, .int fi, .int ft, .int fo, .int fa])), (q1, .inl (cA, an, .inl af))]) [0, 1] (by decide) rfl
  have hKc := hK.sub (tys' := [(cA, .int)]) [0] rfl
  have hFc := va_free (wc := [(h0, .inr (0, [.int fw, .int fh, .int fs, .int fc, .int fl, .int fe, .ref q1, .int fi, .int ft, .int fo, .int fa])), (q1, .inl (cA, an, .inl af))]) hD hS hA [0, 1] rfl
  refine vx_calli (vx_runV (As := [.int a1, .int a2]) (rest := [.int 0, .ref q2]) ⟨hx, hb, hml, hown, hts⟩ (mtX0_tile l hl9 dC dI h0 q1 cA fw fh fs fc fl fe fi ft fo fa an af s.heap.size a1 a2 N hN hNb han) (cwV 2 hts (gb_v kw_300 kw_301 kw_302 kw_22 kw_303) rfl rfl rfl (by decide +kernel) ⟨Nat.le_of_ble_eq_true rfl, Nat.le_of_ble_eq_true rfl⟩) ⟨zz_P.blind, va_recv hKc hPc (ci := 0) (q0 := 0) rfl rfl, zz_P.at hPc hKc hDc (hZ.kept hS.2.1) hFc⟩ rfl rfl hl.1 rfl (lv_room (Nat.le_of_ble_eq_true rfl)) dL_tile_5 ⟨Nat.le_of_ble_eq_true rfl, Nat.le_of_ble_eq_true rfl⟩) hS (fun q _ h => hFc q h) hFc (fun q _ h => hFc q h) (fun E ce q9 u t H1 locs ht hvm hw hB hz1 hk1 hS hce hcv hcl => ?_) (fun r u t H1 locs ht hvm hw hB hz1 hk1 hS => ?_)
  · obtain ⟨k9, fw_1, fh_2, fs_3, fc_4, fl_5, fe_6, fi_7, ft_8, fo_9, fa_10, an_11, af_12⟩ := u
    obtain ⟨hw, hk9⟩ := hw
    obtain ⟨rfl, q1_13, cA_14, hP1, hK1, hD1⟩ := hB
    try dsimp only at hw hk9 hcl
    rw [ht] at hP1
    have hK1 := va_K.moved hvm.symm hK1
    obtain ⟨hP, hD⟩ := va_join (wr := [(q2, .inl (cJ, 1, .inr (.inl ol)))]) (w1 := [(h0, .inr (0, [.int fw_1, .int fh_2, .int fs_3, .int fc_4, .int fl_5, .int fe_6, .ref q1_13, .int fi_7, .int ft_8, .int fo_9, .int fa_10])), (q1_13, .inl (cA_14, an_11, .inl af_12))]) hP hD [0, 1] [2] rfl rfl (by decide) (by decide) hk1 hFc hP1 hD1
    have hK := (hK.sub (tys' := [(cJ, .long)]) [1] rfl).app hK1
    generalize H1 = H at hP hS hce ⊢
    have hP : va_P (dC, dI) vwCl [(q2, .inl (cJ, 1, .inr (.inl ol))), (h0, .inr (0, [.int fw_1, .int fh_2, .int fs_3, .int fc_4, .int fl_5, .int fe_6, .ref q1_13, .int fi_7, .int ft_8, .int fo_9, .int fa_10])), (q1_13, .inl (cA_14, an_11, .inl af_12))] H := hP
    have hD : va_D A [(q2, .inl (cJ, 1, .inr (.inl ol))), (h0, .inr (0, [.int fw_1, .int fh_2, .int fs_3, .int fc_4, .int fl_5, .int fe_6, .ref q1_13, .int fi_7, .int ft_8, .int fo_9, .int fa_10])), (q1_13, .inl (cA_14, an_11, .inl af_12))] := hD
    have hK : va_K (dC, dI) vwCl [(cJ, .long), (cA_14, .int)] s := hK
    subst hk9
    refine vx_catch (own := "TileBinsLaw") (name := "java/lang/IllegalArgumentException") (E := "java/lang/IllegalArgumentException") hown [] ⟨0, 10, 13, 13⟩ [] (by rw [hTab]; rfl) (fun z hz => nomatch hz) (by decide) (by decide) (hts _ kw_95) (hZ.bad _ (by decide +kernel)) hce hcv hcl ?_
    refine lv_astore (lv' := [(4, .ref q9), (0, .ref h0), (1, .int a1), (2, .int a2), (3, .ref q2)]) hx hb dL_tile_13 hl (by decide) rfl (fun ls hl => ?_)
    refine lv_iconst (v := 1) hx hb dL_tile_15 (by first | rfl | decide) ?_
    have hP := hP.sub (ws' := [(h0, .inr (0, [.int fw_1, .int fh_2, .int fs_3, .int fc_4, .int fl_5, .int fe_6, .ref q1_13, .int fi_7, .int ft_8, .int fo_9, .int fa_10])), (q1_13, .inl (cA_14, an_11, .inl af_12)), (q2, .inl (cJ, 1, .inr (.inl ol)))]) [1, 2, 0] rfl
    have hD := hD.sub (ws' := [(h0, .inr (0, [.int fw_1, .int fh_2, .int fs_3, .int fc_4, .int fl_5, .int fe_6, .ref q1_13, .int fi_7, .int ft_8, .int fo_9, .int fa_10])), (q1_13, .inl (cA_14, an_11, .inl af_12)), (q2, .inl (cJ, 1, .inr (.inl ol)))]) [1, 2, 0] (by decide) rfl
    have hK := hK.sub (tys' := [(cA_14, .int), (cJ, .long)]) [1, 0] rfl
    exact W.iret (v := 1) hx hb hr (fun t ht hW => ⟨⟨_, ((fw_1, fh_2, fs_3, fc_4, fl_5, fe_6, fi_7, ft_8, fo_9, fa_10, an_11, af_12), ol), rfl, (Or.inr ⟨1, hw, by decide, by decide, rfl⟩), q1_13, cA_14, cJ, by rw [ht]; exact hP, va_K.moved hW.alike hK, hD⟩, hS.F ht⟩) hS.2.2 dL_tile_16
  · obtain ⟨fw_15, fh_16, fs_17, fc_18, fl_19, fe_20, fi_21, ft_22, fo_23, fa_24, an_25, af_26⟩ := u
    obtain ⟨q1_27, cA_28, hP1, hK1, hD1⟩ := hB
    try dsimp only at hw
    rw [ht] at hP1
    have hK1 := va_K.moved hvm.symm hK1
    obtain ⟨hP, hD⟩ := va_join (wr := [(q2, .inl (cJ, 1, .inr (.inl ol)))]) (w1 := [(h0, .inr (0, [.int fw_15, .int fh_16, .int fs_17, .int fc_18, .int fl_19, .int fe_20, .ref q1_27, .int fi_21, .int ft_22, .int fo_23, .int fa_24])), (q1_27, .inl (cA_28, an_25, .inl af_26))]) hP hD [0, 1] [2] rfl rfl (by decide) (by decide) hk1 hFc hP1 hD1
    have hK := (hK.sub (tys' := [(cJ, .long)]) [1] rfl).app hK1
    generalize H1 = H at hP hS ⊢
    have hP : va_P (dC, dI) vwCl [(q2, .inl (cJ, 1, .inr (.inl ol))), (h0, .inr (0, [.int fw_15, .int fh_16, .int fs_17, .int fc_18, .int fl_19, .int fe_20, .ref q1_27, .int fi_21, .int ft_22, .int fo_23, .int fa_24])), (q1_27, .inl (cA_28, an_25, .inl af_26))] H := hP
    have hD : va_D A [(q2, .inl (cJ, 1, .inr (.inl ol))), (h0, .inr (0, [.int fw_15, .int fh_16, .int fs_17, .int fc_18, .int fl_19, .int fe_20, .ref q1_27, .int fi_21, .int ft_22, .int fo_23, .int fa_24])), (q1_27, .inl (cA_28, an_25, .inl af_26))] := hD
    have hK : va_K (dC, dI) vwCl [(cJ, .long), (cA_28, .int)] s := hK
    refine lv_i2l (v := r.toInt64) hx hb dL_tile_8 rfl ?_
    refine va_last hx hb hK hP hD hS 0 0 rfl rfl lm_01 dL_tile_9 (fun H locs hP hD hS => ?_)
    have hP : va_P (dC, dI) vwCl [(q2, .inl (cJ, 1, .inr (.inl (vp_updL ol (0 : Int32).toNatClampNeg r.toInt64)))), (h0, .inr (0, [.int fw_15, .int fh_16, .int fs_17, .int fc_18, .int fl_19, .int fe_20, .ref q1_27, .int fi_21, .int ft_22, .int fo_23, .int fa_24])), (q1_27, .inl (cA_28, an_25, .inl af_26))] H := hP
    have hD : va_D A [(q2, .inl (cJ, 1, .inr (.inl (vp_updL ol (0 : Int32).toNatClampNeg r.toInt64)))), (h0, .inr (0, [.int fw_15, .int fh_16, .int fs_17, .int fc_18, .int fl_19, .int fe_20, .ref q1_27, .int fi_21, .int ft_22, .int fo_23, .int fa_24])), (q1_27, .inl (cA_28, an_25, .inl af_26))] := hD
    refine lv_goto (tgt := 17) hx hb dL_tile_10 (by decide) ?_
    refine lv_iconst (v := 0) hx hb dL_tile_17 (by first | rfl | decide) ?_
    have hP := hP.sub (ws' := [(h0, .inr (0, [.int fw_15, .int fh_16, .int fs_17, .int fc_18, .int fl_19, .int fe_20, .ref q1_27, .int fi_21, .int ft_22, .int fo_23, .int fa_24])), (q1_27, .inl (cA_28, an_25, .inl af_26)), (q2, .inl (cJ, 1, .inr (.inl (vp_updL ol (0 : Int32).toNatClampNeg r.toInt64))))]) [1, 2, 0] rfl
    have hD := hD.sub (ws' := [(h0, .inr (0, [.int fw_15, .int fh_16, .int fs_17, .int fc_18, .int fl_19, .int fe_20, .ref q1_27, .int fi_21, .int ft_22, .int fo_23, .int fa_24])), (q1_27, .inl (cA_28, an_25, .inl af_26)), (q2, .inl (cJ, 1, .inr (.inl (vp_updL ol (0 : Int32).toNatClampNeg r.toInt64))))]) [1, 2, 0] (by decide) rfl
    have hK := hK.sub (tys' := [(cA_28, .int), (cJ, .long)]) [1, 0] rfl
    exact W.iret (v := 0) hx hb hr (fun t ht hW => ⟨⟨_, ((fw_15, fh_16, fs_17, fc_18, fl_19, fe_20, fi_21, ft_22, fo_23, fa_24, an_25, af_26), vp_updL ol (0 : Int32).toNatClampNeg r.toInt64), rfl, (Or.inl ⟨r, hw, rfl, rfl⟩), q1_27, cA_28, cJ, by rw [ht]; exact hP, va_K.moved hW.alike hK, hD⟩, hS.F ht⟩) hS.2.2 dL_tile_18
set_option maxHeartbeats 4000000 in
set_option maxRecDepth 100000 in
theorem mtL_tileOf (l : Launch) (hl9 : l.stackTraces = false) (dC : Nat → ClassId) (dI : Nat → Nat → Nat) (h0 q1 q2 : Nat) (cA cJ : ClassId) (fw fh fs fc fl fe fi ft fo fa : Int32) (an : Nat) (af : Nat → Int32) (ol : Nat → Int64) (sz : Nat) (a1 a2 : Int32) : Met l yL_tileOf wsL_tileOf ({ frames := 7, cells := 1, slots := 6, locals := 113 }) (va_Pc [.ref h0, .int a1, .int a2, .ref q2] (zz_P (dC, dI) vwCl [(h0, .inr (0, [.int fw, .int fh, .int fs, .int fc, .int fl, .int fe, .ref q1, .int fi, .int ft, .int fo, .int fa])), (q1, .inl (cA, an, .inl af)), (q2, .inl (cJ, 1, .inr (.inl ol)))] [(cA, .int), (cJ, .long)] sz)) (va_Qi (hl_post (tb_tileOf fw fh fs fc fl fe fi ft fo fa an af a1 a2) ol) (hlAt (dC, dI) (va_A [(h0, .inr (0, [.int fw, .int fh, .int fs, .int fc, .int fl, .int fe, .ref q1, .int fi, .int ft, .int fo, .int fa])), (q1, .inl (cA, an, .inl af)), (q2, .inl (cJ, 1, .inr (.inl ol)))] sz) h0 q2) (va_A [(h0, .inr (0, [.int fw, .int fh, .int fs, .int fc, .int fl, .int fe, .ref q1, .int fi, .int ft, .int fo, .int fa])), (q1, .inl (cA, an, .inl af)), (q2, .inl (cJ, 1, .inr (.inl ol)))] sz)) 1 6 (va_A [(h0, .inr (0, [.int fw, .int fh, .int fs, .int fc, .int fl, .int fe, .ref q1, .int fi, .int ft, .int fo, .int fa])), (q1, .inl (cA, an, .inl af)), (q2, .inl (cJ, 1, .inr (.inl ol)))] sz) := by
  refine va_MetW (cc := cL_tileOf) (maxL := 5) (ret := (some .int)) (hh := [(0, 10, 13, 13)]) (by decide) rfl ?_
  intro p e s m args below meth c s₁ B hml hv
  obtain ⟨rfl, ⟨hsz, hP, hK, hD0⟩, hZ⟩ := hv
  have hx := B.exec
  have hb := B.bytes
  have hr := B.returns
  have hts0 := atoms_spec (ws := wsL_tileOf) B.pre
  have hTab := vx_table (x := yL_tileOf) B (hts0 _ List.mem_cons_self)
  have hts : ∀ w ∈ gb, w.before _ s = true := fun w h => hts0 w (List.mem_cons_of_mem _ h)
  have hown : s.vm.findClass "TileBinsLaw" = some m.cls := findClass_of_methodNamed B.named
  have hlocks := B.notSynchronized
  subst hsz
  have hD := hD0.self (sz := s.heap.size)
  generalize hAe : va_A [(h0, .inr (0, [.int fw, .int fh, .int fs, .int fc, .int fl, .int fe, .ref q1, .int fi, .int ft, .int fo, .int fa])), (q1, .inl (cA, an, .inl af)), (q2, .inl (cJ, 1, .inr (.inl ol)))] s.heap.size = A at hD hZ ⊢
  have hA : ∀ q : Nat, s.heap.size ≤ q → A q := fun q h => by rw [← hAe]; exact Or.inr h
  have hS : va_S A s.heap s.heap [] := va_S.rf
  have hP : va_P (dC, dI) vwCl [(h0, .inr (0, [.int fw, .int fh, .int fs, .int fc, .int fl, .int fe, .ref q1, .int fi, .int ft, .int fo, .int fa])), (q1, .inl (cA, an, .inl af)), (q2, .inl (cJ, 1, .inr (.inl ol)))] s.heap := hP
  have hl := lv_entry ([.ref h0, .int a1, .int a2, .ref q2]) (n := 5) (Nat.le_of_ble_eq_true rfl)
  rw [lg_entry_eq]
  generalize (lg_sl ([.ref h0, .int a1, .int a2, .ref q2]) ++ List.replicate (5 - (lg_sl ([.ref h0, .int a1, .int a2, .ref q2])).length) Slot.unset).toArray = ls at hl ⊢
  have hl : lv_has ls 5 [(0, .ref h0), (1, .int a1), (2, .int a2), (3, .ref q2)] := hl
  refine lv_aload_n hx hb dL_tileOf_0 rfl (lv_at hl 3 rfl) ?_
  refine lv_iconst (v := 0) hx hb dL_tileOf_1 (by first | rfl | decide) ?_
  refine lv_aload_n hx hb dL_tileOf_2 rfl (lv_at hl 0 rfl) ?_
  refine lv_iload_n hx hb dL_tileOf_3 rfl (lv_at hl 1 rfl) ?_
  refine lv_iload_n hx hb dL_tileOf_4 rfl (lv_at hl 2 rfl) ?_
  have hPc := hP.sub (ws' := [(h0, .inr (0, [.int fw, .int fh, .int fs, .int fc, .int fl, .int fe, .ref q1, .int fi, .int ft, .int fo, .int fa])), (q1, .inl (cA, an, .inl af))]) [0, 1] rfl
  have hDc := hD.sub (ws' := [(h0, .inr (0, [.int fw, .int fh, .int fs, .int fc, .int fl, .int fe, .ref q1, .int fi, .int ft, .int fo, .int fa])), (q1, .inl (cA, an, .inl af))]) [0, 1] (by decide) rfl
  have hKc := hK.sub (tys' := [(cA, .int)]) [0] rfl
  have hFc := va_free (wc := [(h0, .inr (0, [.int fw, .int fh, .int fs, .int fc, .int fl, .int fe, .ref q1, .int fi, .int ft, .int fo, .int fa])), (q1, .inl (cA, an, .inl af))]) hD hS hA [0, 1] rfl
  refine vx_calli (vx_runV (As := [.int a1, .int a2]) (rest := [.int 0, .ref q2]) ⟨hx, hb, hml, hown, hts⟩ (mtX0_tileOf l hl9 dC dI h0 q1 cA fw fh fs fc fl fe fi ft fo fa an af s.heap.size a1 a2 ) (cwV 2 hts (gb_v kw_308 kw_309 kw_310 kw_22 kw_311) rfl rfl rfl (by decide +kernel) ⟨Nat.le_of_ble_eq_true rfl, Nat.le_of_ble_eq_true rfl⟩) ⟨zz_P.blind, va_recv hKc hPc (ci := 0) (q0 := 0) rfl rfl, zz_P.at hPc hKc hDc (hZ.kept hS.2.1) hFc⟩ rfl rfl hl.1 rfl (lv_room (Nat.le_of_ble_eq_true rfl)) dL_tileOf_5 ⟨Nat.le_of_ble_eq_true rfl, Nat.le_of_ble_eq_true rfl⟩) hS (fun q _ h => hFc q h) hFc (fun q _ h => hFc q h) (fun E ce q9 u t H1 locs ht hvm hw hB hz1 hk1 hS hce hcv hcl => ?_) (fun r u t H1 locs ht hvm hw hB hz1 hk1 hS => ?_)
  · obtain ⟨k9, fw_1, fh_2, fs_3, fc_4, fl_5, fe_6, fi_7, ft_8, fo_9, fa_10, an_11, af_12⟩ := u
    obtain ⟨hw, hk9⟩ := hw
    obtain ⟨rfl, q1_13, cA_14, hP1, hK1, hD1⟩ := hB
    try dsimp only at hw hk9 hcl
    rw [ht] at hP1
    have hK1 := va_K.moved hvm.symm hK1
    obtain ⟨hP, hD⟩ := va_join (wr := [(q2, .inl (cJ, 1, .inr (.inl ol)))]) (w1 := [(h0, .inr (0, [.int fw_1, .int fh_2, .int fs_3, .int fc_4, .int fl_5, .int fe_6, .ref q1_13, .int fi_7, .int ft_8, .int fo_9, .int fa_10])), (q1_13, .inl (cA_14, an_11, .inl af_12))]) hP hD [0, 1] [2] rfl rfl (by decide) (by decide) hk1 hFc hP1 hD1
    have hK := (hK.sub (tys' := [(cJ, .long)]) [1] rfl).app hK1
    generalize H1 = H at hP hS hce ⊢
    have hP : va_P (dC, dI) vwCl [(q2, .inl (cJ, 1, .inr (.inl ol))), (h0, .inr (0, [.int fw_1, .int fh_2, .int fs_3, .int fc_4, .int fl_5, .int fe_6, .ref q1_13, .int fi_7, .int ft_8, .int fo_9, .int fa_10])), (q1_13, .inl (cA_14, an_11, .inl af_12))] H := hP
    have hD : va_D A [(q2, .inl (cJ, 1, .inr (.inl ol))), (h0, .inr (0, [.int fw_1, .int fh_2, .int fs_3, .int fc_4, .int fl_5, .int fe_6, .ref q1_13, .int fi_7, .int ft_8, .int fo_9, .int fa_10])), (q1_13, .inl (cA_14, an_11, .inl af_12))] := hD
    have hK : va_K (dC, dI) vwCl [(cJ, .long), (cA_14, .int)] s := hK
    subst hk9
    refine vx_catch (own := "TileBinsLaw") (name := "java/lang/IllegalArgumentException") (E := "java/lang/IllegalArgumentException") hown [] ⟨0, 10, 13, 13⟩ [] (by rw [hTab]; rfl) (fun z hz => nomatch hz) (by decide) (by decide) (hts _ kw_95) (hZ.bad _ (by decide +kernel)) hce hcv hcl ?_
    refine lv_astore (lv' := [(4, .ref q9), (0, .ref h0), (1, .int a1), (2, .int a2), (3, .ref q2)]) hx hb dL_tileOf_13 hl (by decide) rfl (fun ls hl => ?_)
    refine lv_iconst (v := 1) hx hb dL_tileOf_15 (by first | rfl | decide) ?_
    have hP := hP.sub (ws' := [(h0, .inr (0, [.int fw_1, .int fh_2, .int fs_3, .int fc_4, .int fl_5, .int fe_6, .ref q1_13, .int fi_7, .int ft_8, .int fo_9, .int fa_10])), (q1_13, .inl (cA_14, an_11, .inl af_12)), (q2, .inl (cJ, 1, .inr (.inl ol)))]) [1, 2, 0] rfl
    have hD := hD.sub (ws' := [(h0, .inr (0, [.int fw_1, .int fh_2, .int fs_3, .int fc_4, .int fl_5, .int fe_6, .ref q1_13, .int fi_7, .int ft_8, .int fo_9, .int fa_10])), (q1_13, .inl (cA_14, an_11, .inl af_12)), (q2, .inl (cJ, 1, .inr (.inl ol)))]) [1, 2, 0] (by decide) rfl
    have hK := hK.sub (tys' := [(cA_14, .int), (cJ, .long)]) [1, 0] rfl
    exact W.iret (v := 1) hx hb hr (fun t ht hW => ⟨⟨_, ((fw_1, fh_2, fs_3, fc_4, fl_5, fe_6, fi_7, ft_8, fo_9, fa_10, an_11, af_12), ol), rfl, (Or.inr ⟨1, hw, by decide, by decide, rfl⟩), q1_13, cA_14, cJ, by rw [ht]; exact hP, va_K.moved hW.alike hK, hD⟩, hS.F ht⟩) hS.2.2 dL_tileOf_16
  · obtain ⟨fw_15, fh_16, fs_17, fc_18, fl_19, fe_20, fi_21, ft_22, fo_23, fa_24, an_25, af_26⟩ := u
    obtain ⟨q1_27, cA_28, hP1, hK1, hD1⟩ := hB
    try dsimp only at hw
    rw [ht] at hP1
    have hK1 := va_K.moved hvm.symm hK1
    obtain ⟨hP, hD⟩ := va_join (wr := [(q2, .inl (cJ, 1, .inr (.inl ol)))]) (w1 := [(h0, .inr (0, [.int fw_15, .int fh_16, .int fs_17, .int fc_18, .int fl_19, .int fe_20, .ref q1_27, .int fi_21, .int ft_22, .int fo_23, .int fa_24])), (q1_27, .inl (cA_28, an_25, .inl af_26))]) hP hD [0, 1] [2] rfl rfl (by decide) (by decide) hk1 hFc hP1 hD1
    have hK := (hK.sub (tys' := [(cJ, .long)]) [1] rfl).app hK1
    generalize H1 = H at hP hS ⊢
    have hP : va_P (dC, dI) vwCl [(q2, .inl (cJ, 1, .inr (.inl ol))), (h0, .inr (0, [.int fw_15, .int fh_16, .int fs_17, .int fc_18, .int fl_19, .int fe_20, .ref q1_27, .int fi_21, .int ft_22, .int fo_23, .int fa_24])), (q1_27, .inl (cA_28, an_25, .inl af_26))] H := hP
    have hD : va_D A [(q2, .inl (cJ, 1, .inr (.inl ol))), (h0, .inr (0, [.int fw_15, .int fh_16, .int fs_17, .int fc_18, .int fl_19, .int fe_20, .ref q1_27, .int fi_21, .int ft_22, .int fo_23, .int fa_24])), (q1_27, .inl (cA_28, an_25, .inl af_26))] := hD
    have hK : va_K (dC, dI) vwCl [(cJ, .long), (cA_28, .int)] s := hK
    refine lv_i2l (v := r.toInt64) hx hb dL_tileOf_8 rfl ?_
    refine va_last hx hb hK hP hD hS 0 0 rfl rfl lm_01 dL_tileOf_9 (fun H locs hP hD hS => ?_)
    have hP : va_P (dC, dI) vwCl [(q2, .inl (cJ, 1, .inr (.inl (vp_updL ol (0 : Int32).toNatClampNeg r.toInt64)))), (h0, .inr (0, [.int fw_15, .int fh_16, .int fs_17, .int fc_18, .int fl_19, .int fe_20, .ref q1_27, .int fi_21, .int ft_22, .int fo_23, .int fa_24])), (q1_27, .inl (cA_28, an_25, .inl af_26))] H := hP
    have hD : va_D A [(q2, .inl (cJ, 1, .inr (.inl (vp_updL ol (0 : Int32).toNatClampNeg r.toInt64)))), (h0, .inr (0, [.int fw_15, .int fh_16, .int fs_17, .int fc_18, .int fl_19, .int fe_20, .ref q1_27, .int fi_21, .int ft_22, .int fo_23, .int fa_24])), (q1_27, .inl (cA_28, an_25, .inl af_26))] := hD
    refine lv_goto (tgt := 17) hx hb dL_tileOf_10 (by decide) ?_
    refine lv_iconst (v := 0) hx hb dL_tileOf_17 (by first | rfl | decide) ?_
    have hP := hP.sub (ws' := [(h0, .inr (0, [.int fw_15, .int fh_16, .int fs_17, .int fc_18, .int fl_19, .int fe_20, .ref q1_27, .int fi_21, .int ft_22, .int fo_23, .int fa_24])), (q1_27, .inl (cA_28, an_25, .inl af_26)), (q2, .inl (cJ, 1, .inr (.inl (vp_updL ol (0 : Int32).toNatClampNeg r.toInt64))))]) [1, 2, 0] rfl
    have hD := hD.sub (ws' := [(h0, .inr (0, [.int fw_15, .int fh_16, .int fs_17, .int fc_18, .int fl_19, .int fe_20, .ref q1_27, .int fi_21, .int ft_22, .int fo_23, .int fa_24])), (q1_27, .inl (cA_28, an_25, .inl af_26)), (q2, .inl (cJ, 1, .inr (.inl (vp_updL ol (0 : Int32).toNatClampNeg r.toInt64))))]) [1, 2, 0] (by decide) rfl
    have hK := hK.sub (tys' := [(cA_28, .int), (cJ, .long)]) [1, 0] rfl
    exact W.iret (v := 0) hx hb hr (fun t ht hW => ⟨⟨_, ((fw_15, fh_16, fs_17, fc_18, fl_19, fe_20, fi_21, ft_22, fo_23, fa_24, an_25, af_26), vp_updL ol (0 : Int32).toNatClampNeg r.toInt64), rfl, (Or.inl ⟨r, hw, rfl, rfl⟩), q1_27, cA_28, cJ, by rw [ht]; exact hP, va_K.moved hW.alike hK, hD⟩, hS.F ht⟩) hS.2.2 dL_tileOf_18
set_option maxHeartbeats 4000000 in
set_option maxRecDepth 100000 in
theorem mtL_count (l : Launch) (hl9 : l.stackTraces = false) (dC : Nat → ClassId) (dI : Nat → Nat → Nat) (h0 q1 q2 : Nat) (cA cJ : ClassId) (fw fh fs fc fl fe fi ft fo fa : Int32) (an : Nat) (af : Nat → Int32) (ol : Nat → Int64) (sz : Nat) (a1 : Int32) : Met l yL_count wsL_count ({ frames := 7, cells := 1, slots := 6, locals := 112 }) (va_Pc [.ref h0, .int a1, .ref q2] (zz_P (dC, dI) vwCl [(h0, .inr (0, [.int fw, .int fh, .int fs, .int fc, .int fl, .int fe, .ref q1, .int fi, .int ft, .int fo, .int fa])), (q1, .inl (cA, an, .inl af)), (q2, .inl (cJ, 1, .inr (.inl ol)))] [(cA, .int), (cJ, .long)] sz)) (va_Qi (hl_post (tb_count fw fh fs fc fl fe fi ft fo fa an af a1) ol) (hlAt (dC, dI) (va_A [(h0, .inr (0, [.int fw, .int fh, .int fs, .int fc, .int fl, .int fe, .ref q1, .int fi, .int ft, .int fo, .int fa])), (q1, .inl (cA, an, .inl af)), (q2, .inl (cJ, 1, .inr (.inl ol)))] sz) h0 q2) (va_A [(h0, .inr (0, [.int fw, .int fh, .int fs, .int fc, .int fl, .int fe, .ref q1, .int fi, .int ft, .int fo, .int fa])), (q1, .inl (cA, an, .inl af)), (q2, .inl (cJ, 1, .inr (.inl ol)))] sz)) 1 6 (va_A [(h0, .inr (0, [.int fw, .int fh, .int fs, .int fc, .int fl, .int fe, .ref q1, .int fi, .int ft, .int fo, .int fa])), (q1, .inl (cA, an, .inl af)), (q2, .inl (cJ, 1, .inr (.inl ol)))] sz) := by
  refine va_MetW (cc := cL_count) (maxL := 4) (ret := (some .int)) (hh := [(0, 9, 12, 13)]) (by decide) rfl ?_
  intro p e s m args below meth c s₁ B hml hv
  obtain ⟨rfl, ⟨hsz, hP, hK, hD0⟩, hZ⟩ := hv
  have hx := B.exec
  have hb := B.bytes
  have hr := B.returns
  have hts0 := atoms_spec (ws := wsL_count) B.pre
  have hTab := vx_table (x := yL_count) B (hts0 _ List.mem_cons_self)
  have hts : ∀ w ∈ gb, w.before _ s = true := fun w h => hts0 w (List.mem_cons_of_mem _ h)
  have hown : s.vm.findClass "TileBinsLaw" = some m.cls := findClass_of_methodNamed B.named
  have hlocks := B.notSynchronized
  subst hsz
  have hD := hD0.self (sz := s.heap.size)
  generalize hAe : va_A [(h0, .inr (0, [.int fw, .int fh, .int fs, .int fc, .int fl, .int fe, .ref q1, .int fi, .int ft, .int fo, .int fa])), (q1, .inl (cA, an, .inl af)), (q2, .inl (cJ, 1, .inr (.inl ol)))] s.heap.size = A at hD hZ ⊢
  have hA : ∀ q : Nat, s.heap.size ≤ q → A q := fun q h => by rw [← hAe]; exact Or.inr h
  have hS : va_S A s.heap s.heap [] := va_S.rf
  have hP : va_P (dC, dI) vwCl [(h0, .inr (0, [.int fw, .int fh, .int fs, .int fc, .int fl, .int fe, .ref q1, .int fi, .int ft, .int fo, .int fa])), (q1, .inl (cA, an, .inl af)), (q2, .inl (cJ, 1, .inr (.inl ol)))] s.heap := hP
  have hl := lv_entry ([.ref h0, .int a1, .ref q2]) (n := 4) (Nat.le_of_ble_eq_true rfl)
  rw [lg_entry_eq]
  generalize (lg_sl ([.ref h0, .int a1, .ref q2]) ++ List.replicate (4 - (lg_sl ([.ref h0, .int a1, .ref q2])).length) Slot.unset).toArray = ls at hl ⊢
  have hl : lv_has ls 4 [(0, .ref h0), (1, .int a1), (2, .ref q2)] := hl
  refine lv_aload_n hx hb dL_count_0 rfl (lv_at hl 2 rfl) ?_
  refine lv_iconst (v := 0) hx hb dL_count_1 (by first | rfl | decide) ?_
  refine lv_aload_n hx hb dL_count_2 rfl (lv_at hl 0 rfl) ?_
  refine lv_iload_n hx hb dL_count_3 rfl (lv_at hl 1 rfl) ?_
  have hPc := hP.sub (ws' := [(h0, .inr (0, [.int fw, .int fh, .int fs, .int fc, .int fl, .int fe, .ref q1, .int fi, .int ft, .int fo, .int fa])), (q1, .inl (cA, an, .inl af))]) [0, 1] rfl
  have hDc := hD.sub (ws' := [(h0, .inr (0, [.int fw, .int fh, .int fs, .int fc, .int fl, .int fe, .ref q1, .int fi, .int ft, .int fo, .int fa])), (q1, .inl (cA, an, .inl af))]) [0, 1] (by decide) rfl
  have hKc := hK.sub (tys' := [(cA, .int)]) [0] rfl
  have hFc := va_free (wc := [(h0, .inr (0, [.int fw, .int fh, .int fs, .int fc, .int fl, .int fe, .ref q1, .int fi, .int ft, .int fo, .int fa])), (q1, .inl (cA, an, .inl af))]) hD hS hA [0, 1] rfl
  refine vx_calli (vx_runV (As := [.int a1]) (rest := [.int 0, .ref q2]) ⟨hx, hb, hml, hown, hts⟩ (mtX0_count l hl9 dC dI h0 q1 cA fw fh fs fc fl fe fi ft fo fa an af s.heap.size a1 ) (cwV 1 hts (gb_v kw_316 kw_317 kw_318 kw_22 kw_319) rfl rfl rfl (by decide +kernel) ⟨Nat.le_of_ble_eq_true rfl, Nat.le_of_ble_eq_true rfl⟩) ⟨zz_P.blind, va_recv hKc hPc (ci := 0) (q0 := 0) rfl rfl, zz_P.at hPc hKc hDc (hZ.kept hS.2.1) hFc⟩ rfl rfl hl.1 rfl (lv_room (Nat.le_of_ble_eq_true rfl)) dL_count_4 ⟨Nat.le_of_ble_eq_true rfl, Nat.le_of_ble_eq_true rfl⟩) hS (fun q _ h => hFc q h) hFc (fun q _ h => hFc q h) (fun E ce q9 u t H1 locs ht hvm hw hB hz1 hk1 hS hce hcv hcl => ?_) (fun r u t H1 locs ht hvm hw hB hz1 hk1 hS => ?_)
  · obtain ⟨k9, fw_1, fh_2, fs_3, fc_4, fl_5, fe_6, fi_7, ft_8, fo_9, fa_10, an_11, af_12⟩ := u
    obtain ⟨hw, hk9⟩ := hw
    obtain ⟨rfl, q1_13, cA_14, hP1, hK1, hD1⟩ := hB
    try dsimp only at hw hk9 hcl
    rw [ht] at hP1
    have hK1 := va_K.moved hvm.symm hK1
    obtain ⟨hP, hD⟩ := va_join (wr := [(q2, .inl (cJ, 1, .inr (.inl ol)))]) (w1 := [(h0, .inr (0, [.int fw_1, .int fh_2, .int fs_3, .int fc_4, .int fl_5, .int fe_6, .ref q1_13, .int fi_7, .int ft_8, .int fo_9, .int fa_10])), (q1_13, .inl (cA_14, an_11, .inl af_12))]) hP hD [0, 1] [2] rfl rfl (by decide) (by decide) hk1 hFc hP1 hD1
    have hK := (hK.sub (tys' := [(cJ, .long)]) [1] rfl).app hK1
    generalize H1 = H at hP hS hce ⊢
    have hP : va_P (dC, dI) vwCl [(q2, .inl (cJ, 1, .inr (.inl ol))), (h0, .inr (0, [.int fw_1, .int fh_2, .int fs_3, .int fc_4, .int fl_5, .int fe_6, .ref q1_13, .int fi_7, .int ft_8, .int fo_9, .int fa_10])), (q1_13, .inl (cA_14, an_11, .inl af_12))] H := hP
    have hD : va_D A [(q2, .inl (cJ, 1, .inr (.inl ol))), (h0, .inr (0, [.int fw_1, .int fh_2, .int fs_3, .int fc_4, .int fl_5, .int fe_6, .ref q1_13, .int fi_7, .int ft_8, .int fo_9, .int fa_10])), (q1_13, .inl (cA_14, an_11, .inl af_12))] := hD
    have hK : va_K (dC, dI) vwCl [(cJ, .long), (cA_14, .int)] s := hK
    subst hk9
    refine vx_catch (own := "TileBinsLaw") (name := "java/lang/IllegalArgumentException") (E := "java/lang/IllegalArgumentException") hown [] ⟨0, 9, 12, 13⟩ [] (by rw [hTab]; rfl) (fun z hz => nomatch hz) (by decide) (by decide) (hts _ kw_95) (hZ.bad _ (by decide +kernel)) hce hcv hcl ?_
    refine lv_astore_n (lv' := [(3, .ref q9), (0, .ref h0), (1, .int a1), (2, .ref q2)]) hx hb dL_count_12 rfl hl (by decide) rfl (fun ls hl => ?_)
    refine lv_iconst (v := 1) hx hb dL_count_13 (by first | rfl | decide) ?_
    have hP := hP.sub (ws' := [(h0, .inr (0, [.int fw_1, .int fh_2, .int fs_3, .int fc_4, .int fl_5, .int fe_6, .ref q1_13, .int fi_7, .int ft_8, .int fo_9, .int fa_10])), (q1_13, .inl (cA_14, an_11, .inl af_12)), (q2, .inl (cJ, 1, .inr (.inl ol)))]) [1, 2, 0] rfl
    have hD := hD.sub (ws' := [(h0, .inr (0, [.int fw_1, .int fh_2, .int fs_3, .int fc_4, .int fl_5, .int fe_6, .ref q1_13, .int fi_7, .int ft_8, .int fo_9, .int fa_10])), (q1_13, .inl (cA_14, an_11, .inl af_12)), (q2, .inl (cJ, 1, .inr (.inl ol)))]) [1, 2, 0] (by decide) rfl
    have hK := hK.sub (tys' := [(cA_14, .int), (cJ, .long)]) [1, 0] rfl
    exact W.iret (v := 1) hx hb hr (fun t ht hW => ⟨⟨_, ((fw_1, fh_2, fs_3, fc_4, fl_5, fe_6, fi_7, ft_8, fo_9, fa_10, an_11, af_12), ol), rfl, (Or.inr ⟨1, hw, by decide, by decide, rfl⟩), q1_13, cA_14, cJ, by rw [ht]; exact hP, va_K.moved hW.alike hK, hD⟩, hS.F ht⟩) hS.2.2 dL_count_14
  · obtain ⟨fw_15, fh_16, fs_17, fc_18, fl_19, fe_20, fi_21, ft_22, fo_23, fa_24, an_25, af_26⟩ := u
    obtain ⟨q1_27, cA_28, hP1, hK1, hD1⟩ := hB
    try dsimp only at hw
    rw [ht] at hP1
    have hK1 := va_K.moved hvm.symm hK1
    obtain ⟨hP, hD⟩ := va_join (wr := [(q2, .inl (cJ, 1, .inr (.inl ol)))]) (w1 := [(h0, .inr (0, [.int fw_15, .int fh_16, .int fs_17, .int fc_18, .int fl_19, .int fe_20, .ref q1_27, .int fi_21, .int ft_22, .int fo_23, .int fa_24])), (q1_27, .inl (cA_28, an_25, .inl af_26))]) hP hD [0, 1] [2] rfl rfl (by decide) (by decide) hk1 hFc hP1 hD1
    have hK := (hK.sub (tys' := [(cJ, .long)]) [1] rfl).app hK1
    generalize H1 = H at hP hS ⊢
    have hP : va_P (dC, dI) vwCl [(q2, .inl (cJ, 1, .inr (.inl ol))), (h0, .inr (0, [.int fw_15, .int fh_16, .int fs_17, .int fc_18, .int fl_19, .int fe_20, .ref q1_27, .int fi_21, .int ft_22, .int fo_23, .int fa_24])), (q1_27, .inl (cA_28, an_25, .inl af_26))] H := hP
    have hD : va_D A [(q2, .inl (cJ, 1, .inr (.inl ol))), (h0, .inr (0, [.int fw_15, .int fh_16, .int fs_17, .int fc_18, .int fl_19, .int fe_20, .ref q1_27, .int fi_21, .int ft_22, .int fo_23, .int fa_24])), (q1_27, .inl (cA_28, an_25, .inl af_26))] := hD
    have hK : va_K (dC, dI) vwCl [(cJ, .long), (cA_28, .int)] s := hK
    refine lv_i2l (v := r.toInt64) hx hb dL_count_7 rfl ?_
    refine va_last hx hb hK hP hD hS 0 0 rfl rfl lm_01 dL_count_8 (fun H locs hP hD hS => ?_)
    have hP : va_P (dC, dI) vwCl [(q2, .inl (cJ, 1, .inr (.inl (vp_updL ol (0 : Int32).toNatClampNeg r.toInt64)))), (h0, .inr (0, [.int fw_15, .int fh_16, .int fs_17, .int fc_18, .int fl_19, .int fe_20, .ref q1_27, .int fi_21, .int ft_22, .int fo_23, .int fa_24])), (q1_27, .inl (cA_28, an_25, .inl af_26))] H := hP
    have hD : va_D A [(q2, .inl (cJ, 1, .inr (.inl (vp_updL ol (0 : Int32).toNatClampNeg r.toInt64)))), (h0, .inr (0, [.int fw_15, .int fh_16, .int fs_17, .int fc_18, .int fl_19, .int fe_20, .ref q1_27, .int fi_21, .int ft_22, .int fo_23, .int fa_24])), (q1_27, .inl (cA_28, an_25, .inl af_26))] := hD
    refine lv_goto (tgt := 15) hx hb dL_count_9 (by decide) ?_
    refine lv_iconst (v := 0) hx hb dL_count_15 (by first | rfl | decide) ?_
    have hP := hP.sub (ws' := [(h0, .inr (0, [.int fw_15, .int fh_16, .int fs_17, .int fc_18, .int fl_19, .int fe_20, .ref q1_27, .int fi_21, .int ft_22, .int fo_23, .int fa_24])), (q1_27, .inl (cA_28, an_25, .inl af_26)), (q2, .inl (cJ, 1, .inr (.inl (vp_updL ol (0 : Int32).toNatClampNeg r.toInt64))))]) [1, 2, 0] rfl
    have hD := hD.sub (ws' := [(h0, .inr (0, [.int fw_15, .int fh_16, .int fs_17, .int fc_18, .int fl_19, .int fe_20, .ref q1_27, .int fi_21, .int ft_22, .int fo_23, .int fa_24])), (q1_27, .inl (cA_28, an_25, .inl af_26)), (q2, .inl (cJ, 1, .inr (.inl (vp_updL ol (0 : Int32).toNatClampNeg r.toInt64))))]) [1, 2, 0] (by decide) rfl
    have hK := hK.sub (tys' := [(cA_28, .int), (cJ, .long)]) [1, 0] rfl
    exact W.iret (v := 0) hx hb hr (fun t ht hW => ⟨⟨_, ((fw_15, fh_16, fs_17, fc_18, fl_19, fe_20, fi_21, ft_22, fo_23, fa_24, an_25, af_26), vp_updL ol (0 : Int32).toNatClampNeg r.toInt64), rfl, (Or.inl ⟨r, hw, rfl, rfl⟩), q1_27, cA_28, cJ, by rw [ht]; exact hP, va_K.moved hW.alike hK, hD⟩, hS.F ht⟩) hS.2.2 dL_count_16
