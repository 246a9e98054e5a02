set_option maxHeartbeats 4000000 in
set_option maxRecDepth 100000 in
theorem mtJ7_copyOf (l : Launch) (dC : Nat → ClassId) (dI : Nat → Nat → Nat) (q1 : Nat) (cA : ClassId) (an : Nat) (af : Nat → Int32) (sz : Nat) (a2 : Int32) (N : Nat) (hN : a2 = nI N) (hlt : an < N) (hmax : N ≤ 6144) : Met l yJ7_copyOf wsJ7_copyOf ({ frames := 1, cells := 1, slots := 6144, locals := 21 }) (va_Pc [.ref q1, .int a2] (mu_P (dC, dI) vwCl [(q1, .inl (cA, an, .inl af))] [(cA, .int)] sz)) (va_Qr (fun _ : Unit => True) (fun _ (a : Nat) t => ∃ cB : ClassId, va_P (dC, dI) vwCl [(q1, .inl (cA, an, .inl af)), (a, .inl (cB, N, .inl (va_cpy af (fun _ => 0) (0 : Int32).toNatClampNeg (0 : Int32).toNatClampNeg (nI an).toNatClampNeg)))] t.heap ∧ va_K (dC, dI) vwCl [(cA, .int), (cB, .int)] t ∧ va_D (va_A [(q1, .inl (cA, an, .inl af))] sz) [(q1, .inl (cA, an, .inl af)), (a, .inl (cB, N, .inl (va_cpy af (fun _ => 0) (0 : Int32).toNatClampNeg (0 : Int32).toNatClampNeg (nI an).toNatClampNeg)))]) (va_A [(q1, .inl (cA, an, .inl af))] sz)) 1 6144 (va_A [(q1, .inl (cA, an, .inl af))] sz) := by
  refine Met.ofW (cc := cJ7_copyOf) (maxL := 3) (ret := (some (.array .int))) (by decide) rfl ?_
  intro p e s m args below meth c s₁ B hml hv
  obtain ⟨rfl, hsz, hP, hK, hD0⟩ := hv
  have hx := B.exec
  have hb := B.bytes
  have hr := B.returns
  have hts : ∀ w ∈ gb, w.before _ s = true := fun w h => atoms_spec (ws := wsJ7_copyOf) B.pre w (List.mem_cons_of_mem _ h)
  have hown : s.vm.findClass "java/util/Arrays" = some m.cls := findClass_of_methodNamed B.named
  have hlocks := B.notSynchronized
  subst hsz
  have hD := hD0.self (sz := s.heap.size)
  generalize hAe : va_A [(q1, .inl (cA, an, .inl af))] s.heap.size = A at hD ⊢
  have hA : ∀ q : Nat, s.heap.size ≤ q → A q := fun q h => by rw [← hAe]; exact Or.inr h
  have hS : va_S A s.heap s.heap [] := va_S.rf
  have hP : va_P (dC, dI) vwCl [(q1, .inl (cA, an, .inl af))] s.heap := hP
  have hl := lv_entry ([.ref q1, .int a2]) (n := 3) (Nat.le_of_ble_eq_true rfl)
  rw [lg_entry_eq]
  generalize (lg_sl ([.ref q1, .int a2]) ++ List.replicate (3 - (lg_sl ([.ref q1, .int a2])).length) Slot.unset).toArray = ls at hl ⊢
  have hl : lv_has ls 3 [(0, .ref q1), (1, .int a2)] := hl
  refine lv_iload_n hx hb dJ7_copyOf_0 rfl (lv_at hl 1 rfl) ?_
  refine lv_aload_n hx hb dJ7_copyOf_1 rfl (lv_at hl 0 rfl) ?_
  refine va_alen hx hb hK hP 0 0 rfl rfl (v := nI an) rfl dJ7_copyOf_2 ?_
  refine lv_icmp_ne (tgt := 14) hx hb dJ7_copyOf_3 (by decide) (fun c_1 => ?_) (fun c_1 => absurd c_1 (by rw [hN, nI_eq (by omega) (by omega)]; omega))
  refine lv_iload_n hx hb dJ7_copyOf_14 rfl (lv_at hl 1 rfl) ?_
  refine va_newa (atype := .int) (ty := .int) (a0 := (N, .inl (fun _ => 0))) (N' := N) hx hb (hts _ kw_87) rfl hK hP hD hS hA (fun _ => rfl) (by rw [hN]; exact nI_pos (by omega)) (by rw [hN]; exact nI_clamp (by omega)) (by show N * 4 ≤ 536870912; omega) (Nat.le_of_ble_eq_true rfl) (by show 0 + N ≤ 6144; omega) dJ7_copyOf_15 (fun q cB H hK hP hD hS => ?_)
  have hK : va_K (dC, dI) vwCl [(cA, .int), (cB, .int)] s := hK
  have hP : va_P (dC, dI) vwCl [(q1, .inl (cA, an, .inl af)), (q, .inl (cB, N, .inl (fun _ => 0)))] H := hP
  have hD : va_D A [(q1, .inl (cA, an, .inl af)), (q, .inl (cB, N, .inl (fun _ => 0)))] := hD
  refine W.widen (k := 1) (n := 6144) (Nat.le_refl _) (by omega) ?_
  refine lv_astore_n (lv' := [(2, .ref q), (0, .ref q1), (1, .int a2)]) hx hb dJ7_copyOf_17 rfl hl (by decide) rfl (fun ls hl => ?_)
  refine lv_aload_n hx hb dJ7_copyOf_18 rfl (lv_at hl 1 rfl) ?_
  refine lv_iconst (v := 0) hx hb dJ7_copyOf_19 (by decide) ?_
  refine lv_aload_n hx hb dJ7_copyOf_20 rfl (lv_at hl 0 rfl) ?_
  refine lv_iconst (v := 0) hx hb dJ7_copyOf_21 (by decide) ?_
  refine lv_aload_n hx hb dJ7_copyOf_22 rfl (lv_at hl 1 rfl) ?_
  refine va_alen hx hb hK hP 0 0 rfl rfl (v := nI an) rfl dJ7_copyOf_23 ?_
  refine lv_iload_n hx hb dJ7_copyOf_24 rfl (lv_at hl 2 rfl) ?_
  refine va_mmin hx hb (hml.trans hl.1.symm) hown (hts _ kw_224) (hts _ kw_192) (hts _ kw_28) (hts _ kw_mmin) (Nat.le_of_ble_eq_true rfl) (Nat.le_of_ble_eq_true rfl) (Nat.le_of_ble_eq_true rfl) (Nat.le_of_ble_eq_true rfl) dJ7_copyOf_25 ?_
  rw [if_neg (show ¬ a2 < nI an by rw [hN, nI_ltI (by omega) (by omega)]; omega)]
  refine va_copyi hx hb (hml.trans hl.1.symm) hown (hts _ kw_225) (hts _ kw_227) (hts _ kw_226) (hts _ kw_31) hK hP hD hS 0 1 0 1 rfl rfl rfl rfl rfl (by decide) (by decide) (nI_pos (by omega)) (by rw [nI_clamp (by omega)]; show 0 + an ≤ an; omega) (by rw [nI_clamp (by omega)]; show 0 + an ≤ N; omega) (fun _ _ => rfl) (Nat.le_of_ble_eq_true rfl) (Nat.le_of_ble_eq_true rfl) dJ7_copyOf_28 (fun H locs hP hD hS => ?_)
  have hP : va_P (dC, dI) vwCl [(q1, .inl (cA, an, .inl af)), (q, .inl (cB, N, .inl (va_cpy af (fun _ => 0) (0 : Int32).toNatClampNeg (0 : Int32).toNatClampNeg (nI an).toNatClampNeg)))] H := hP
  have hD : va_D A [(q1, .inl (cA, an, .inl af)), (q, .inl (cB, N, .inl (va_cpy af (fun _ => 0) (0 : Int32).toNatClampNeg (0 : Int32).toNatClampNeg (nI an).toNatClampNeg)))] := hD
  refine lv_aload_n hx hb dJ7_copyOf_31 rfl (lv_at hl 0 rfl) ?_
  exact W.aret (v := .ref q) hx hb hr (Or.inr ⟨_, rfl⟩) (Or.inr ⟨_, rfl⟩) (fun t ht hW => ⟨⟨(), q, rfl, trivial, cB, by rw [ht]; exact hP, va_K.moved hW.alike hK, hD⟩, hS.F ht⟩) hS.2.2 dJ7_copyOf_32
def tb_taken0 (fw fh fs fc fl fe : Int32) (an : Nat) (af : Nat → Int32) : TBA := (fw, fh, fs, fc, fl, fe, 0, 0, (-1), 0, an, af)
set_option maxHeartbeats 4000000 in
set_option maxRecDepth 100000 in
theorem mtX0_takeAllOut (l : Launch) (dC : Nat → ClassId) (dI : Nat → Nat → Nat) (h0 q1 : Nat) (cA : ClassId) (fw fh fs fc fl fe fi ft fo fa : Int32) (an : Nat) (af : Nat → Int32) (sz : Nat) : Met l yX0_takeAllOut wsX0_takeAllOut ({ frames := 0, cells := 0, slots := 0, locals := 0 }) (va_Pc [.ref h0] (mu_P (dC, dI) vwCl [(h0, .inr (0, [.int fw, .int fh, .int fs, .int fc, .int fl, .int fe, .ref q1, .int fi, .int ft, .int fo, .int fa])), (q1, .inl (cA, an, .inl af))] [(cA, .int)] sz)) (va_Qv (fun u : TBA => u = tb_taken0 fw fh fs fc fl fe an af) (tbAt (dC, dI) (va_A [(h0, .inr (0, [.int fw, .int fh, .int fs, .int fc, .int fl, .int fe, .ref q1, .int fi, .int ft, .int fo, .int fa])), (q1, .inl (cA, an, .inl af))] sz) h0) (va_A [(h0, .inr (0, [.int fw, .int fh, .int fs, .int fc, .int fl, .int fe, .ref q1, .int fi, .int ft, .int fo, .int fa])), (q1, .inl (cA, an, .inl af))] sz)) 0 0 (va_A [(h0, .inr (0, [.int fw, .int fh, .int fs, .int fc, .int fl, .int fe, .ref q1, .int fi, .int ft, .int fo, .int fa])), (q1, .inl (cA, an, .inl af))] sz) := by
  refine Met.ofW (cc := cX0_takeAllOut) (maxL := 1) (ret := none) (by decide) rfl ?_
  intro p e s m args below meth c s₁ B hml hv
  obtain ⟨rfl, hsz, hP, hK, hD0⟩ := hv
  have hx := B.exec
  have hb := B.bytes
  have hr := B.returns
  have hts : ∀ w ∈ gb, w.before _ s = true := fun w h => atoms_spec (ws := wsX0_takeAllOut) B.pre w (List.mem_cons_of_mem _ h)
  have hown : s.vm.findClass "TileBins" = some m.cls := findClass_of_methodNamed B.named
  have hlocks := B.notSynchronized
  subst hsz
  have hD := hD0.self (sz := s.heap.size)
  generalize hAe : va_A [(h0, .inr (0, [.int fw, .int fh, .int fs, .int fc, .int fl, .int fe, .ref q1, .int fi, .int ft, .int fo, .int fa])), (q1, .inl (cA, an, .inl af))] s.heap.size = A at hD ⊢
  have hA : ∀ q : Nat, s.heap.size ≤ q → A q := fun q h => by rw [← hAe]; exact Or.inr h
  have hS : va_S A s.heap s.heap [] := va_S.rf
  have hP : va_P (dC, dI) vwCl [(h0, .inr (0, [.int fw, .int fh, .int fs, .int fc, .int fl, .int fe, .ref q1, .int fi, .int ft, .int fo, .int fa])), (q1, .inl (cA, an, .inl af))] s.heap := hP
  have hl := lv_entry ([.ref h0]) (n := 1) (Nat.le_of_ble_eq_true rfl)
  rw [lg_entry_eq]
  generalize (lg_sl ([.ref h0]) ++ List.replicate (1 - (lg_sl ([.ref h0])).length) Slot.unset).toArray = ls at hl ⊢
  have hl : lv_has ls 1 [(0, .ref h0)] := hl
  refine lv_aload_n hx hb dX0_takeAllOut_0 rfl (lv_at hl 0 rfl) ?_
  refine lv_iconst (v := 0) hx hb dX0_takeAllOut_1 (by first | rfl | decide) ?_
  refine va_put (D := (dC, dI)) (ci := 0) (v := .int 0) (ty := .int) (C := "TileBins") (T := TX0) (N := 11) hx hb hts inX0 tyX0 tyX0_ok nmX0 hown hK hP hD hS 0 rfl rfl 7 (by decide) (hts _ kw_60) (fun _ h9 => h9) rfl (by decide +kernel) rfl rfl (Nat.le_of_ble_eq_true rfl) dX0_takeAllOut_2 (fun H locs hP hD hS => ?_)
  have hP : va_P (dC, dI) vwCl [(h0, .inr (0, [.int fw, .int fh, .int fs, .int fc, .int fl, .int fe, .ref q1, .int 0, .int ft, .int fo, .int fa])), (q1, .inl (cA, an, .inl af))] H := hP
  have hD : va_D A [(h0, .inr (0, [.int fw, .int fh, .int fs, .int fc, .int fl, .int fe, .ref q1, .int 0, .int ft, .int fo, .int fa])), (q1, .inl (cA, an, .inl af))] := hD
  refine lv_aload_n hx hb dX0_takeAllOut_5 rfl (lv_at hl 0 rfl) ?_
  refine lv_iconst (v := 0) hx hb dX0_takeAllOut_6 (by first | rfl | decide) ?_
  refine va_put (D := (dC, dI)) (ci := 0) (v := .int 0) (ty := .int) (C := "TileBins") (T := TX0) (N := 11) hx hb hts inX0 tyX0 tyX0_ok nmX0 hown hK hP hD hS 0 rfl rfl 8 (by decide) (hts _ kw_61) (fun _ h9 => h9) rfl (by decide +kernel) rfl rfl (Nat.le_of_ble_eq_true rfl) dX0_takeAllOut_7 (fun H locs hP hD hS => ?_)
  have hP : va_P (dC, dI) vwCl [(h0, .inr (0, [.int fw, .int fh, .int fs, .int fc, .int fl, .int fe, .ref q1, .int 0, .int 0, .int fo, .int fa])), (q1, .inl (cA, an, .inl af))] H := hP
  have hD : va_D A [(h0, .inr (0, [.int fw, .int fh, .int fs, .int fc, .int fl, .int fe, .ref q1, .int 0, .int 0, .int fo, .int fa])), (q1, .inl (cA, an, .inl af))] := hD
  refine lv_aload_n hx hb dX0_takeAllOut_10 rfl (lv_at hl 0 rfl) ?_
  refine lv_iconst (v := (-1)) hx hb dX0_takeAllOut_11 (by first | rfl | decide) ?_
  refine va_put (D := (dC, dI)) (ci := 0) (v := .int (-1)) (ty := .int) (C := "TileBins") (T := TX0) (N := 11) hx hb hts inX0 tyX0 tyX0_ok nmX0 hown hK hP hD hS 0 rfl rfl 9 (by decide) (hts _ kw_62) (fun _ h9 => h9) rfl (by decide +kernel) rfl rfl (Nat.le_of_ble_eq_true rfl) dX0_takeAllOut_12 (fun H locs hP hD hS => ?_)
  have hP : va_P (dC, dI) vwCl [(h0, .inr (0, [.int fw, .int fh, .int fs, .int fc, .int fl, .int fe, .ref q1, .int 0, .int 0, .int (-1), .int fa])), (q1, .inl (cA, an, .inl af))] H := hP
  have hD : va_D A [(h0, .inr (0, [.int fw, .int fh, .int fs, .int fc, .int fl, .int fe, .ref q1, .int 0, .int 0, .int (-1), .int fa])), (q1, .inl (cA, an, .inl af))] := hD
  refine lv_aload_n hx hb dX0_takeAllOut_15 rfl (lv_at hl 0 rfl) ?_
  refine lv_iconst (v := 0) hx hb dX0_takeAllOut_16 (by first | rfl | decide) ?_
  refine va_put (D := (dC, dI)) (ci := 0) (v := .int 0) (ty := .int) (C := "TileBins") (T := TX0) (N := 11) hx hb hts inX0 tyX0 tyX0_ok nmX0 hown hK hP hD hS 0 rfl rfl 10 (by decide) (hts _ kw_63) (fun _ h9 => h9) rfl (by decide +kernel) rfl rfl (Nat.le_of_ble_eq_true rfl) dX0_takeAllOut_17 (fun H locs hP hD hS => ?_)
  have hP : va_P (dC, dI) vwCl [(h0, .inr (0, [.int fw, .int fh, .int fs, .int fc, .int fl, .int fe, .ref q1, .int 0, .int 0, .int (-1), .int 0])), (q1, .inl (cA, an, .inl af))] H := hP
  have hD : va_D A [(h0, .inr (0, [.int fw, .int fh, .int fs, .int fc, .int fl, .int fe, .ref q1, .int 0, .int 0, .int (-1), .int 0])), (q1, .inl (cA, an, .inl af))] := hD
  exact W.vret hx hb hr (fun t ht hW => ⟨⟨(fw, fh, fs, fc, fl, fe, 0, 0, (-1), 0, an, af), rfl, rfl, q1, cA, by rw [ht]; exact hP, va_K.moved hW.alike hK, hD⟩, hS.F ht⟩) hS.2.2 dX0_takeAllOut_20
def tb_lay (an : Nat) (af : Nat → Int32) (a1 a2 a3 a4 : Int32) : TBA := (a1, a2, a3, (tb_across a3 0 a1), (tb_across a3 0 a2), a4, 0, 0, (-1), 0, an, af)
set_option maxHeartbeats 4000000 in
set_option maxRecDepth 100000 in
theorem mtX0_layOut (l : Launch) (dC : Nat → ClassId) (dI : Nat → Nat → Nat) (h0 q1 : Nat) (cA : ClassId) (fw fh fs fc fl fe fi ft fo fa : Int32) (an : Nat) (af : Nat → Int32) (sz : Nat) (a1 a2 a3 a4 : Int32) : Met l yX0_layOut wsX0_layOut ({ frames := 1, cells := 0, slots := 0, locals := 22 }) (va_Pc [.ref h0, .int a1, .int a2, .int a3, .int a4] (mu_P (dC, dI) vwCl [(h0, .inr (0, [.int fw, .int fh, .int fs, .int fc, .int fl, .int fe, .ref q1, .int fi, .int ft, .int fo, .int fa])), (q1, .inl (cA, an, .inl af))] [(cA, .int)] sz)) (va_Qv (fun u : TBA => u = tb_lay an af a1 a2 a3 a4) (tbAt (dC, dI) (va_A [(h0, .inr (0, [.int fw, .int fh, .int fs, .int fc, .int fl, .int fe, .ref q1, .int fi, .int ft, .int fo, .int fa])), (q1, .inl (cA, an, .inl af))] sz) h0) (va_A [(h0, .inr (0, [.int fw, .int fh, .int fs, .int fc, .int fl, .int fe, .ref q1, .int fi, .int ft, .int fo, .int fa])), (q1, .inl (cA, an, .inl af))] sz)) 0 0 (va_A [(h0, .inr (0, [.int fw, .int fh, .int fs, .int fc, .int fl, .int fe, .ref q1, .int fi, .int ft, .int fo, .int fa])), (q1, .inl (cA, an, .inl af))] sz) := by
  refine Met.ofW (cc := cX0_layOut) (maxL := 5) (ret := none) (by decide) rfl ?_
  intro p e s m args below meth c s₁ B hml hv
  obtain ⟨rfl, hsz, hP, hK, hD0⟩ := hv
  have hx := B.exec
  have hb := B.bytes
  have hr := B.returns
  have hts : ∀ w ∈ gb, w.before _ s = true := fun w h => atoms_spec (ws := wsX0_layOut) B.pre w (List.mem_cons_of_mem _ h)
  have hown : s.vm.findClass "TileBins" = some m.cls := findClass_of_methodNamed B.named
  have hlocks := B.notSynchronized
  subst hsz
  have hD := hD0.self (sz := s.heap.size)
  generalize hAe : va_A [(h0, .inr (0, [.int fw, .int fh, .int fs, .int fc, .int fl, .int fe, .ref q1, .int fi, .int ft, .int fo, .int fa])), (q1, .inl (cA, an, .inl af))] s.heap.size = A at hD ⊢
  have hA : ∀ q : Nat, s.heap.size ≤ q → A q := fun q h => by rw [← hAe]; exact Or.inr h
  have hS : va_S A s.heap s.heap [] := va_S.rf
  have hP : va_P (dC, dI) vwCl [(h0, .inr (0, [.int fw, .int fh, .int fs, .int fc, .int fl, .int fe, .ref q1, .int fi, .int ft, .int fo, .int fa])), (q1, .inl (cA, an, .inl af))] s.heap := hP
  have hl := lv_entry ([.ref h0, .int a1, .int a2, .int a3, .int a4]) (n := 5) (Nat.le_of_ble_eq_true rfl)
  rw [lg_entry_eq]
  generalize (lg_sl ([.ref h0, .int a1, .int a2, .int a3, .int a4]) ++ List.replicate (5 - (lg_sl ([.ref h0, .int a1, .int a2, .int a3, .int a4])).length) Slot.unset).toArray = ls at hl ⊢
  have hl : lv_has ls 5 [(0, .ref h0), (1, .int a1), (2, .int a2), (3, .int a3), (4, .int a4)] := hl
  refine lv_aload_n hx hb dX0_layOut_0 rfl (lv_at hl 0 rfl) ?_
  refine lv_iload_n hx hb dX0_layOut_1 rfl (lv_at hl 1 rfl) ?_
  refine va_put (D := (dC, dI)) (ci := 0) (v := .int a1) (ty := .int) (C := "TileBins") (T := TX0) (N := 11) hx hb hts inX0 tyX0 tyX0_ok nmX0 hown hK hP hD hS 0 rfl rfl 0 (by decide) (hts _ kw_53) (fun _ h9 => h9) rfl (by decide +kernel) rfl rfl (Nat.le_of_ble_eq_true rfl) dX0_layOut_2 (fun H locs hP hD hS => ?_)
  have hP : va_P (dC, dI) vwCl [(h0, .inr (0, [.int a1, .int fh, .int fs, .int fc, .int fl, .int fe, .ref q1, .int fi, .int ft, .int fo, .int fa])), (q1, .inl (cA, an, .inl af))] H := hP
  have hD : va_D A [(h0, .inr (0, [.int a1, .int fh, .int fs, .int fc, .int fl, .int fe, .ref q1, .int fi, .int ft, .int fo, .int fa])), (q1, .inl (cA, an, .inl af))] := hD
  refine lv_aload_n hx hb dX0_layOut_5 rfl (lv_at hl 0 rfl) ?_
  refine lv_iload_n hx hb dX0_layOut_6 rfl (lv_at hl 2 rfl) ?_
  refine va_put (D := (dC, dI)) (ci := 0) (v := .int a2) (ty := .int) (C := "TileBins") (T := TX0) (N := 11) hx hb hts inX0 tyX0 tyX0_ok nmX0 hown hK hP hD hS 0 rfl rfl 1 (by decide) (hts _ kw_54) (fun _ h9 => h9) rfl (by decide +kernel) rfl rfl (Nat.le_of_ble_eq_true rfl) dX0_layOut_7 (fun H locs hP hD hS => ?_)
  have hP : va_P (dC, dI) vwCl [(h0, .inr (0, [.int a1, .int a2, .int fs, .int fc, .int fl, .int fe, .ref q1, .int fi, .int ft, .int fo, .int fa])), (q1, .inl (cA, an, .inl af))] H := hP
  have hD : va_D A [(h0, .inr (0, [.int a1, .int a2, .int fs, .int fc, .int fl, .int fe, .ref q1, .int fi, .int ft, .int fo, .int fa])), (q1, .inl (cA, an, .inl af))] := hD
  refine lv_aload_n hx hb dX0_layOut_10 rfl (lv_at hl 0 rfl) ?_
  refine lv_iload_n hx hb dX0_layOut_11 rfl (lv_at hl 3 rfl) ?_
  refine va_put (D := (dC, dI)) (ci := 0) (v := .int a3) (ty := .int) (C := "TileBins") (T := TX0) (N := 11) hx hb hts inX0 tyX0 tyX0_ok nmX0 hown hK hP hD hS 0 rfl rfl 2 (by decide) (hts _ kw_55) (fun _ h9 => h9) rfl (by decide +kernel) rfl rfl (Nat.le_of_ble_eq_true rfl) dX0_layOut_12 (fun H locs hP hD hS => ?_)
  have hP : va_P (dC, dI) vwCl [(h0, .inr (0, [.int a1, .int a2, .int a3, .int fc, .int fl, .int fe, .ref q1, .int fi, .int ft, .int fo, .int fa])), (q1, .inl (cA, an, .inl af))] H := hP
  have hD : va_D A [(h0, .inr (0, [.int a1, .int a2, .int a3, .int fc, .int fl, .int fe, .ref q1, .int fi, .int ft, .int fo, .int fa])), (q1, .inl (cA, an, .inl af))] := hD
  refine lv_aload_n hx hb dX0_layOut_15 rfl (lv_at hl 0 rfl) ?_
  refine lv_aload_n hx hb dX0_layOut_16 rfl (lv_at hl 0 rfl) ?_
  refine lv_iconst (v := 0) hx hb dX0_layOut_17 (by first | rfl | decide) ?_
  refine lv_iload_n hx hb dX0_layOut_18 rfl (lv_at hl 1 rfl) ?_
  refine ro_calli (va_runV (As := [.int 0, .int a1]) (rest := [.ref h0]) ⟨hx, hb, hml, hown, hts⟩ (mtX0_tilesAcross l dC dI h0 q1 cA a1 a2 a3 fc fl fe fi ft fo fa an af H.size 0 a1) (cwV 2 hts (gb_v kw_45 kw_47 kw_1 kw_22 kw_48) rfl rfl rfl (by decide +kernel) ⟨Nat.le_of_ble_eq_true rfl, Nat.le_of_ble_eq_true rfl⟩) ⟨ro_P.blind, va_recv hK hP (ci := 0) (q0 := 0) rfl rfl, ro_P.at hP hK⟩ rfl rfl hl.1 rfl (lv_room (Nat.le_of_ble_eq_true rfl)) dX0_layOut_19 ⟨Nat.le_of_ble_eq_true rfl, Nat.le_of_ble_eq_true rfl⟩) hP hS hA (fun H locs hP hS hz hk => ?_)
  refine va_put (D := (dC, dI)) (ci := 0) (v := .int (tb_across a3 0 a1)) (ty := .int) (C := "TileBins") (T := TX0) (N := 11) hx hb hts inX0 tyX0 tyX0_ok nmX0 hown hK hP hD hS 0 rfl rfl 3 (by decide) (hts _ kw_56) (fun _ h9 => h9) rfl (by decide +kernel) rfl rfl (Nat.le_of_ble_eq_true rfl) dX0_layOut_22 (fun H locs hP hD hS => ?_)
  have hP : va_P (dC, dI) vwCl [(h0, .inr (0, [.int a1, .int a2, .int a3, .int (tb_across a3 0 a1), .int fl, .int fe, .ref q1, .int fi, .int ft, .int fo, .int fa])), (q1, .inl (cA, an, .inl af))] H := hP
  have hD : va_D A [(h0, .inr (0, [.int a1, .int a2, .int a3, .int (tb_across a3 0 a1), .int fl, .int fe, .ref q1, .int fi, .int ft, .int fo, .int fa])), (q1, .inl (cA, an, .inl af))] := hD
  refine lv_aload_n hx hb dX0_layOut_25 rfl (lv_at hl 0 rfl) ?_
  refine lv_aload_n hx hb dX0_layOut_26 rfl (lv_at hl 0 rfl) ?_
  refine lv_iconst (v := 0) hx hb dX0_layOut_27 (by first | rfl | decide) ?_
  refine lv_iload_n hx hb dX0_layOut_28 rfl (lv_at hl 2 rfl) ?_
  refine ro_calli (va_runV (As := [.int 0, .int a2]) (rest := [.ref h0]) ⟨hx, hb, hml, hown, hts⟩ (mtX0_tilesAcross l dC dI h0 q1 cA a1 a2 a3 (tb_across a3 0 a1) fl fe fi ft fo fa an af H.size 0 a2) (cwV 2 hts (gb_v kw_45 kw_47 kw_1 kw_22 kw_48) rfl rfl rfl (by decide +kernel) ⟨Nat.le_of_ble_eq_true rfl, Nat.le_of_ble_eq_true rfl⟩) ⟨ro_P.blind, va_recv hK hP (ci := 0) (q0 := 0) rfl rfl, ro_P.at hP hK⟩ rfl rfl hl.1 rfl (lv_room (Nat.le_of_ble_eq_true rfl)) dX0_layOut_29 ⟨Nat.le_of_ble_eq_true rfl, Nat.le_of_ble_eq_true rfl⟩) hP hS hA (fun H locs hP hS hz hk => ?_)
  refine va_put (D := (dC, dI)) (ci := 0) (v := .int (tb_across a3 0 a2)) (ty := .int) (C := "TileBins") (T := TX0) (N := 11) hx hb hts inX0 tyX0 tyX0_ok nmX0 hown hK hP hD hS 0 rfl rfl 4 (by decide) (hts _ kw_57) (fun _ h9 => h9) rfl (by decide +kernel) rfl rfl (Nat.le_of_ble_eq_true rfl) dX0_layOut_32 (fun H locs hP hD hS => ?_)
  have hP : va_P (dC, dI) vwCl [(h0, .inr (0, [.int a1, .int a2, .int a3, .int (tb_across a3 0 a1), .int (tb_across a3 0 a2), .int fe, .ref q1, .int fi, .int ft, .int fo, .int fa])), (q1, .inl (cA, an, .inl af))] H := hP
  have hD : va_D A [(h0, .inr (0, [.int a1, .int a2, .int a3, .int (tb_across a3 0 a1), .int (tb_across a3 0 a2), .int fe, .ref q1, .int fi, .int ft, .int fo, .int fa])), (q1, .inl (cA, an, .inl af))] := hD
  refine lv_aload_n hx hb dX0_layOut_35 rfl (lv_at hl 0 rfl) ?_
  refine lv_iload hx hb dX0_layOut_36 (lv_at hl 4 rfl) ?_
  refine va_put (D := (dC, dI)) (ci := 0) (v := .int a4) (ty := .int) (C := "TileBins") (T := TX0) (N := 11) hx hb hts inX0 tyX0 tyX0_ok nmX0 hown hK hP hD hS 0 rfl rfl 5 (by decide) (hts _ kw_58) (fun _ h9 => h9) rfl (by decide +kernel) rfl rfl (Nat.le_of_ble_eq_true rfl) dX0_layOut_38 (fun H locs hP hD hS => ?_)
  have hP : va_P (dC, dI) vwCl [(h0, .inr (0, [.int a1, .int a2, .int a3, .int (tb_across a3 0 a1), .int (tb_across a3 0 a2), .int a4, .ref q1, .int fi, .int ft, .int fo, .int fa])), (q1, .inl (cA, an, .inl af))] H := hP
  have hD : va_D A [(h0, .inr (0, [.int a1, .int a2, .int a3, .int (tb_across a3 0 a1), .int (tb_across a3 0 a2), .int a4, .ref q1, .int fi, .int ft, .int fo, .int fa])), (q1, .inl (cA, an, .inl af))] := hD
  refine lv_aload_n hx hb dX0_layOut_41 rfl (lv_at hl 0 rfl) ?_
  have hPc := hP.sub (ws' := [(h0, .inr (0, [.int a1, .int a2, .int a3, .int (tb_across a3 0 a1), .int (tb_across a3 0 a2), .int a4, .ref q1, .int fi, .int ft, .int fo, .int fa])), (q1, .inl (cA, an, .inl af))]) [0, 1] rfl
  have hDc := hD.sub (ws' := [(h0, .inr (0, [.int a1, .int a2, .int a3, .int (tb_across a3 0 a1), .int (tb_across a3 0 a2), .int a4, .ref q1, .int fi, .int ft, .int fo, .int fa])), (q1, .inl (cA, an, .inl af))]) [0, 1] (by decide) rfl
  have hKc := hK.sub (tys' := [(cA, .int)]) [0] rfl
  have hFc := va_free (wc := [(h0, .inr (0, [.int a1, .int a2, .int a3, .int (tb_across a3 0 a1), .int (tb_across a3 0 a2), .int a4, .ref q1, .int fi, .int ft, .int fo, .int fa])), (q1, .inl (cA, an, .inl af))]) hD hS hA [0, 1] rfl
  refine va_callv (va_runV (As := []) (rest := []) ⟨hx, hb, hml, hown, hts⟩ (mtX0_takeAllOut l dC dI h0 q1 cA a1 a2 a3 (tb_across a3 0 a1) (tb_across a3 0 a2) a4 fi ft fo fa an af H.size ) (cwV 0 hts (gb_v kw_49 kw_51 kw_2 kw_22 kw_52) rfl rfl rfl (by decide +kernel) ⟨Nat.le_of_ble_eq_true rfl, Nat.le_of_ble_eq_true rfl⟩) ⟨mu_P.blind, va_recv hKc hPc (ci := 0) (q0 := 0) rfl rfl, mu_P.at hPc hKc hDc⟩ rfl rfl hl.1 rfl (lv_room (Nat.le_of_ble_eq_true rfl)) dX0_layOut_42 ⟨Nat.le_of_ble_eq_true rfl, Nat.le_of_ble_eq_true rfl⟩) hS (fun q _ h => hFc q h) hFc (fun u t H1 locs ht hvm hw hB hz1 hk1 hS => ?_)
  have hw : u = tb_taken0 a1 a2 a3 (tb_across a3 0 a1) (tb_across a3 0 a2) a4 an af := hw
  subst hw
  obtain ⟨q1_1, cA_2, hP1, hK1, hD1⟩ := hB
  rw [ht] at hP1
  have hK1 := va_K.moved hvm.symm hK1
  obtain ⟨hP, hD⟩ := va_join (wr := []) (w1 := [(h0, .inr (0, [.int a1, .int a2, .int a3, .int (tb_across a3 0 a1), .int (tb_across a3 0 a2), .int a4, .ref q1_1, .int 0, .int 0, .int (-1), .int 0])), (q1_1, .inl (cA_2, an, .inl af))]) hP hD [0, 1] [] rfl rfl (by decide) (by decide) hk1 hFc hP1 hD1
  have hK := (hK.sub (tys' := []) [] rfl).app hK1
  generalize H1 = H at hP hS ⊢
  have hP : va_P (dC, dI) vwCl [(h0, .inr (0, [.int a1, .int a2, .int a3, .int (tb_across a3 0 a1), .int (tb_across a3 0 a2), .int a4, .ref q1_1, .int 0, .int 0, .int (-1), .int 0])), (q1_1, .inl (cA_2, an, .inl af))] H := hP
  have hD : va_D A [(h0, .inr (0, [.int a1, .int a2, .int a3, .int (tb_across a3 0 a1), .int (tb_across a3 0 a2), .int a4, .ref q1_1, .int 0, .int 0, .int (-1), .int 0])), (q1_1, .inl (cA_2, an, .inl af))] := hD
  have hK : va_K (dC, dI) vwCl [(cA_2, .int)] s := hK
  exact W.vret hx hb hr (fun t ht hW => ⟨⟨(a1, a2, a3, (tb_across a3 0 a1), (tb_across a3 0 a2), a4, 0, 0, (-1), 0, an, af), rfl, rfl, q1_1, cA_2, by rw [ht]; exact hP, va_K.moved hW.alike hK, hD⟩, hS.F ht⟩) hS.2.2 dX0_layOut_45
def tb_rn (fi : Int32) (an : Nat) : Nat := if ((fi + 1) * 6) ≤ nI an then an else 2 * an
def tb_rf (fi : Int32) (an : Nat) (af : Nat → Int32) : Nat → Int32 := if ((fi + 1) * 6) ≤ nI an then af else va_cpy af (fun _ => 0) (0 : Int32).toNatClampNeg (0 : Int32).toNatClampNeg (nI an).toNatClampNeg
def tb_room (fw fh fs fc fl fe fi ft fo fa : Int32) (an : Nat) (af : Nat → Int32) : TBA := (fw, fh, fs, fc, fl, fe, fi, ft, fo, fa, tb_rn fi an, tb_rf fi an af)
theorem lm_2 (an : Nat) : 2 * nI an = nI (2 * an) := by
  rw [show (2 : Int32) = nI 2 by decide, pk_mul]
set_option maxHeartbeats 4000000 in
set_option maxRecDepth 100000 in
theorem mtX0_makeRoom (l : Launch) (dC : Nat → ClassId) (dI : Nat → Nat → Nat) (h0 q1 : Nat) (cA : ClassId) (fw fh fs fc fl fe fi ft fo fa : Int32) (an : Nat) (af : Nat → Int32) (sz : Nat) (han0 : 0 < an) (hcp : ¬ ((fi + 1) * 6) ≤ nI an → 2 * an ≤ 6144) : Met l yX0_makeRoom wsX0_makeRoom ({ frames := 2, cells := 1, slots := 6144, locals := 43 }) (va_Pc [.ref h0] (mu_P (dC, dI) vwCl [(h0, .inr (0, [.int fw, .int fh, .int fs, .int fc, .int fl, .int fe, .ref q1, .int fi, .int ft, .int fo, .int fa])), (q1, .inl (cA, an, .inl af))] [(cA, .int)] sz)) (va_Qv (fun u : TBA => u = tb_room fw fh fs fc fl fe fi ft fo fa an af) (tbAt (dC, dI) (va_A [(h0, .inr (0, [.int fw, .int fh, .int fs, .int fc, .int fl, .int fe, .ref q1, .int fi, .int ft, .int fo, .int fa])), (q1, .inl (cA, an, .inl af))] sz) h0) (va_A [(h0, .inr (0, [.int fw, .int fh, .int fs, .int fc, .int fl, .int fe, .ref q1, .int fi, .int ft, .int fo, .int fa])), (q1, .inl (cA, an, .inl af))] sz)) 1 6144 (va_A [(h0, .inr (0, [.int fw, .int fh, .int fs, .int fc, .int fl, .int fe, .ref q1, .int fi, .int ft, .int fo, .int fa])), (q1, .inl (cA, an, .inl af))] sz) := by
  refine Met.ofW (cc := cX0_makeRoom) (maxL := 1) (ret := none) (by decide) rfl ?_
  intro p e s m args below meth c s₁ B hml hv
  obtain ⟨rfl, hsz, hP, hK, hD0⟩ := hv
  have hx := B.exec
  have hb := B.bytes
  have hr := B.returns
  have hts : ∀ w ∈ gb, w.before _ s = true := fun w h => atoms_spec (ws := wsX0_makeRoom) B.pre w (List.mem_cons_of_mem _ h)
  have hown : s.vm.findClass "TileBins" = some m.cls := findClass_of_methodNamed B.named
  have hlocks := B.notSynchronized
  subst hsz
  have hD := hD0.self (sz := s.heap.size)
  generalize hAe : va_A [(h0, .inr (0, [.int fw, .int fh, .int fs, .int fc, .int fl, .int fe, .ref q1, .int fi, .int ft, .int fo, .int fa])), (q1, .inl (cA, an, .inl af))] s.heap.size = A at hD ⊢
  have hA : ∀ q : Nat, s.heap.size ≤ q → A q := fun q h => by rw [← hAe]; exact Or.inr h
  have hS : va_S A s.heap s.heap [] := va_S.rf
  have hP : va_P (dC, dI) vwCl [(h0, .inr (0, [.int fw, .int fh, .int fs, .int fc, .int fl, .int fe, .ref q1, .int fi, .int ft, .int fo, .int fa])), (q1, .inl (cA, an, .inl af))] s.heap := hP
  have hl := lv_entry ([.ref h0]) (n := 1) (Nat.le_of_ble_eq_true rfl)
  rw [lg_entry_eq]
  generalize (lg_sl ([.ref h0]) ++ List.replicate (1 - (lg_sl ([.ref h0])).length) Slot.unset).toArray = ls at hl ⊢
  have hl : lv_has ls 1 [(0, .ref h0)] := hl
  refine lv_aload_n hx hb dX0_makeRoom_0 rfl (lv_at hl 0 rfl) ?_
  refine va_get (D := (dC, dI)) (ci := 0) (v := .int fi) (C := "TileBins") (T := TX0) (N := 11) hx hb hts inX0 hown hK hP 0 rfl rfl 7 (by decide) (hts _ kw_60) (fun _ h9 => h9) rfl dX0_makeRoom_1 ?_
  refine lv_iconst (v := 1) hx hb dX0_makeRoom_4 (by first | rfl | decide) ?_
  refine lv_iadd hx hb dX0_makeRoom_5 ?_
  refine lv_bipush (v := 6) hx hb dX0_makeRoom_6 (by first | rfl | decide) ?_
  refine lv_imul hx hb dX0_makeRoom_8 ?_
  refine lv_aload_n hx hb dX0_makeRoom_9 rfl (lv_at hl 0 rfl) ?_
  refine va_get (D := (dC, dI)) (ci := 0) (v := .ref q1) (C := "TileBins") (T := TX0) (N := 11) hx hb hts inX0 hown hK hP 0 rfl rfl 6 (by decide) (hts _ kw_59) (fun _ h9 => h9) rfl dX0_makeRoom_10 ?_
  refine va_alen hx hb hK hP 1 0 rfl rfl (v := nI an) rfl dX0_makeRoom_13 ?_
  refine lv_icmp_le (tgt := 35) hx hb dX0_makeRoom_14 (by decide) (fun c_1 => ?_) (fun c_1 => ?_)
  · refine W.widen (k := 1) (n := 6144) (Nat.le_of_ble_eq_true rfl) (Nat.le_of_ble_eq_true rfl) ?_
    exact W.vret hx hb hr (fun t ht hW => ⟨⟨(fw, fh, fs, fc, fl, fe, fi, ft, fo, fa, an, af), rfl, (show ((fw, fh, fs, fc, fl, fe, fi, ft, fo, fa, an, af) : TBA) = tb_room fw fh fs fc fl fe fi ft fo fa an af by unfold tb_room tb_rn tb_rf; rw [if_pos c_1, if_pos c_1]), q1, cA, by rw [ht]; exact hP, va_K.moved hW.alike hK, hD⟩, hS.F ht⟩) hS.2.2 dX0_makeRoom_35
  · refine lv_aload_n hx hb dX0_makeRoom_17 rfl (lv_at hl 0 rfl) ?_
    refine lv_aload_n hx hb dX0_makeRoom_18 rfl (lv_at hl 0 rfl) ?_
    refine va_get (D := (dC, dI)) (ci := 0) (v := .ref q1) (C := "TileBins") (T := TX0) (N := 11) hx hb hts inX0 hown hK hP 0 rfl rfl 6 (by decide) (hts _ kw_59) (fun _ h9 => h9) rfl dX0_makeRoom_19 ?_
    refine lv_iconst (v := 2) hx hb dX0_makeRoom_22 (by first | rfl | decide) ?_
    refine lv_aload_n hx hb dX0_makeRoom_23 rfl (lv_at hl 0 rfl) ?_
    refine va_get (D := (dC, dI)) (ci := 0) (v := .ref q1) (C := "TileBins") (T := TX0) (N := 11) hx hb hts inX0 hown hK hP 0 rfl rfl 6 (by decide) (hts _ kw_59) (fun _ h9 => h9) rfl dX0_makeRoom_24 ?_
    refine va_alen hx hb hK hP 1 0 rfl rfl (v := nI an) rfl dX0_makeRoom_27 ?_
    refine lv_imul hx hb dX0_makeRoom_28 ?_
    have hPc := hP.sub (ws' := [(q1, .inl (cA, an, .inl af))]) [1] rfl
    have hDc := hD.sub (ws' := [(q1, .inl (cA, an, .inl af))]) [1] (by decide) rfl
    have hKc := hK.sub (tys' := [(cA, .int)]) [0] rfl
    have hFc := va_free (wc := [(q1, .inl (cA, an, .inl af))]) hD hS hA [1] rfl
    refine va_callr (va_runS (As := [.ref q1, .int (2 * (nI an))]) (rest := [.ref h0]) ⟨hx, hb, hml, hown, hts⟩ (mtJ7_copyOf l dC dI q1 cA an af s.heap.size (2 * (nI an)) (2 * an) (lm_2 an) (by omega) (hcp c_1)) (va_cwS 2 hts (gb_s kw_214 kw_215 kw_30 kw_216) rfl rfl rfl (by decide +kernel) ⟨Nat.le_of_ble_eq_true rfl, Nat.le_of_ble_eq_true rfl⟩) ⟨mu_P.blind, mu_P.at hPc hKc hDc⟩ rfl rfl hl.1 rfl (lv_room (Nat.le_of_ble_eq_true rfl)) dX0_makeRoom_29 ⟨Nat.le_of_ble_eq_true rfl, Nat.le_of_ble_eq_true rfl⟩) hS (fun q _ h => hFc q h) hFc (fun u ra t H1 locs ht hvm hw hB hz1 hk1 hS => ?_)
    obtain ⟨cB, hP1, hK1, hD1⟩ := hB
    rw [ht] at hP1
    have hK1 := va_K.moved hvm.symm hK1
    obtain ⟨hP, hD⟩ := va_join (wr := [(h0, .inr (0, [.int fw, .int fh, .int fs, .int fc, .int fl, .int fe, .ref q1, .int fi, .int ft, .int fo, .int fa]))]) (w1 := [(q1, .inl (cA, an, .inl af)), (ra, .inl (cB, 2 * an, .inl (va_cpy af (fun _ => 0) (0 : Int32).toNatClampNeg (0 : Int32).toNatClampNeg (nI an).toNatClampNeg)))]) hP hD [1] [0] rfl rfl (by decide) (by decide) hk1 hFc hP1 hD1
    have hK := (hK.sub (tys' := []) [] rfl).app hK1
    generalize H1 = H at hP hS ⊢
    have hP : va_P (dC, dI) vwCl [(h0, .inr (0, [.int fw, .int fh, .int fs, .int fc, .int fl, .int fe, .ref q1, .int fi, .int ft, .int fo, .int fa])), (q1, .inl (cA, an, .inl af)), (ra, .inl (cB, 2 * an, .inl (va_cpy af (fun _ => 0) (0 : Int32).toNatClampNeg (0 : Int32).toNatClampNeg (nI an).toNatClampNeg)))] H := hP
    have hD : va_D A [(h0, .inr (0, [.int fw, .int fh, .int fs, .int fc, .int fl, .int fe, .ref q1, .int fi, .int ft, .int fo, .int fa])), (q1, .inl (cA, an, .inl af)), (ra, .inl (cB, 2 * an, .inl (va_cpy af (fun _ => 0) (0 : Int32).toNatClampNeg (0 : Int32).toNatClampNeg (nI an).toNatClampNeg)))] := hD
    have hK : va_K (dC, dI) vwCl [(cA, .int), (cB, .int)] s := hK
    refine va_put (D := (dC, dI)) (ci := 0) (v := .ref ra) (ty := (.array .int)) (C := "TileBins") (T := TX0) (N := 11) hx hb hts inX0 tyX0 tyX0_ok nmX0 hown hK hP hD hS 0 rfl rfl 6 (by decide) (hts _ kw_59) (fun _ h9 => h9) rfl (by decide +kernel) rfl rfl (Nat.le_of_ble_eq_true rfl) dX0_makeRoom_32 (fun H locs hP hD hS => ?_)
    have hP : va_P (dC, dI) vwCl [(h0, .inr (0, [.int fw, .int fh, .int fs, .int fc, .int fl, .int fe, .ref ra, .int fi, .int ft, .int fo, .int fa])), (q1, .inl (cA, an, .inl af)), (ra, .inl (cB, 2 * an, .inl (va_cpy af (fun _ => 0) (0 : Int32).toNatClampNeg (0 : Int32).toNatClampNeg (nI an).toNatClampNeg)))] H := hP
    have hD : va_D A [(h0, .inr (0, [.int fw, .int fh, .int fs, .int fc, .int fl, .int fe, .ref ra, .int fi, .int ft, .int fo, .int fa])), (q1, .inl (cA, an, .inl af)), (ra, .inl (cB, 2 * an, .inl (va_cpy af (fun _ => 0) (0 : Int32).toNatClampNeg (0 : Int32).toNatClampNeg (nI an).toNatClampNeg)))] := hD
    have hP := hP.sub (ws' := [(h0, .inr (0, [.int fw, .int fh, .int fs, .int fc, .int fl, .int fe, .ref ra, .int fi, .int ft, .int fo, .int fa])), (ra, .inl (cB, 2 * an, .inl (va_cpy af (fun _ => 0) (0 : Int32).toNatClampNeg (0 : Int32).toNatClampNeg (nI an).toNatClampNeg)))]) [0, 2] rfl
    have hD := hD.sub (ws' := [(h0, .inr (0, [.int fw, .int fh, .int fs, .int fc, .int fl, .int fe, .ref ra, .int fi, .int ft, .int fo, .int fa])), (ra, .inl (cB, 2 * an, .inl (va_cpy af (fun _ => 0) (0 : Int32).toNatClampNeg (0 : Int32).toNatClampNeg (nI an).toNatClampNeg)))]) [0, 2] (by decide) rfl
    have hK := hK.sub (tys' := [(cB, .int)]) [1] rfl
    exact W.vret hx hb hr (fun t ht hW => ⟨⟨(fw, fh, fs, fc, fl, fe, fi, ft, fo, fa, 2 * an, va_cpy af (fun _ => 0) (0 : Int32).toNatClampNeg (0 : Int32).toNatClampNeg (nI an).toNatClampNeg), rfl, (show ((fw, fh, fs, fc, fl, fe, fi, ft, fo, fa, 2 * an, va_cpy af (fun _ => 0) (0 : Int32).toNatClampNeg (0 : Int32).toNatClampNeg (nI an).toNatClampNeg) : TBA) = tb_room fw fh fs fc fl fe fi ft fo fa an af by unfold tb_room tb_rn tb_rf; rw [if_neg c_1, if_neg c_1]), ra, cB, by rw [ht]; exact hP, va_K.moved hW.alike hK, hD⟩, hS.F ht⟩) hS.2.2 dX0_makeRoom_35
def tb_new  : TBA := (1, 1, 3, (tb_across 3 0 1), (tb_across 3 0 1), 64, 0, 0, (-1), 0, 96, (fun _ => 0))
set_option maxHeartbeats 4000000 in
set_option maxRecDepth 100000 in
theorem mtX0_init (l : Launch) (dC : Nat → ClassId) (dI : Nat → Nat → Nat) (h0 : Nat) (sz : Nat) : Met l yX0_init wsX0_init ({ frames := 2, cells := 1, slots := 96, locals := 46 }) (va_Pc [.ref h0] (mu_P (dC, dI) vwCl [(h0, .inr (0, [.int 0, .int 0, .int 0, .int 0, .int 0, .int 0, .null, .int 0, .int 0, .int 0, .int 0]))] [] sz)) (va_Qv (fun u : TBA => u = tb_new) (tbAt (dC, dI) (va_A [(h0, .inr (0, [.int 0, .int 0, .int 0, .int 0, .int 0, .int 0, .null, .int 0, .int 0, .int 0, .int 0]))] sz) h0) (va_A [(h0, .inr (0, [.int 0, .int 0, .int 0, .int 0, .int 0, .int 0, .null, .int 0, .int 0, .int 0, .int 0]))] sz)) 1 96 (va_A [(h0, .inr (0, [.int 0, .int 0, .int 0, .int 0, .int 0, .int 0, .null, .int 0, .int 0, .int 0, .int 0]))] sz) := by
  refine Met.ofW (cc := cX0_init) (maxL := 1) (ret := none) (by decide) rfl ?_
  intro p e s m args below meth c s₁ B hml hv
  obtain ⟨rfl, hsz, hP, hK, hD0⟩ := hv
  have hx := B.exec
  have hb := B.bytes
  have hr := B.returns
  have hts : ∀ w ∈ gb, w.before _ s = true := fun w h => atoms_spec (ws := wsX0_init) B.pre w (List.mem_cons_of_mem _ h)
  have hown : s.vm.findClass "TileBins" = some m.cls := findClass_of_methodNamed B.named
  have hlocks := B.notSynchronized
  have hin : meth.name = "<init>" := (name_of_methodNamed B.named B.method).1
  subst hsz
  have hD := hD0.self (sz := s.heap.size)
  generalize hAe : va_A [(h0, .inr (0, [.int 0, .int 0, .int 0, .int 0, .int 0, .int 0, .null, .int 0, .int 0, .int 0, .int 0]))] s.heap.size = A at hD ⊢
  have hA : ∀ q : Nat, s.heap.size ≤ q → A q := fun q h => by rw [← hAe]; exact Or.inr h
  have hS : va_S A s.heap s.heap [] := va_S.rf
  have hP : va_P (dC, dI) vwCl [(h0, .inr (0, [.int 0, .int 0, .int 0, .int 0, .int 0, .int 0, .null, .int 0, .int 0, .int 0, .int 0]))] s.heap := hP
  have hl := lv_entry ([.ref h0]) (n := 1) (Nat.le_of_ble_eq_true rfl)
  rw [lg_entry_eq]
  generalize (lg_sl ([.ref h0]) ++ List.replicate (1 - (lg_sl ([.ref h0])).length) Slot.unset).toArray = ls at hl ⊢
  have hl : lv_has ls 1 [(0, .ref h0)] := hl
  refine lv_aload_n hx hb dX0_init_0 rfl (lv_at hl 0 rfl) ?_
  refine W.objInit hx hb hown (hts _ kw_38) (hts _ kw_39) (hts _ kw_obj) rfl (by rw [hml]; exact hl.1) rfl dX0_init_1 (Nat.le_of_ble_eq_true rfl) (Nat.le_of_ble_eq_true rfl) ?_
  refine W.eq (g2 := F0 m 4 ls []) rfl ?_
  refine lv_aload_n hx hb dX0_init_4 rfl (lv_at hl 0 rfl) ?_
  refine lv_bipush (v := 96) hx hb dX0_init_5 (by first | rfl | decide) ?_
  refine va_newa (atype := .int) (ty := .int) (a0 := (96, .inl (fun _ => 0))) (N' := 96) hx hb (hts _ kw_87) rfl hK hP hD hS hA (fun _ => rfl) (by decide) (by decide) (by decide) (Nat.le_of_ble_eq_true rfl) (Nat.le_of_ble_eq_true rfl) dX0_init_7 (fun qn_1 cn_2 H hK hP hD hS => ?_)
  have hP : va_P (dC, dI) vwCl [(h0, .inr (0, [.int 0, .int 0, .int 0, .int 0, .int 0, .int 0, .null, .int 0, .int 0, .int 0, .int 0])), (qn_1, .inl (cn_2, 96, .inl (fun _ => 0)))] H := hP
  have hD : va_D A [(h0, .inr (0, [.int 0, .int 0, .int 0, .int 0, .int 0, .int 0, .null, .int 0, .int 0, .int 0, .int 0])), (qn_1, .inl (cn_2, 96, .inl (fun _ => 0)))] := hD
  have hK : va_K (dC, dI) vwCl [(cn_2, .int)] s := hK
  refine W.widen (k := 1) (n := 96) (Nat.le_of_ble_eq_true rfl) (Nat.le_of_ble_eq_true rfl) ?_
  refine va_put (D := (dC, dI)) (ci := 0) (v := .ref qn_1) (ty := (.array .int)) (C := "TileBins") (T := TX0) (N := 11) hx hb hts inX0 tyX0 tyX0_ok nmX0 hown hK hP hD hS 0 rfl rfl 6 (by decide) (hts _ kw_59) (fun _ h9 => h9) rfl (by decide +kernel) rfl rfl (Nat.le_of_ble_eq_true rfl) dX0_init_9 (fun H locs hP hD hS => ?_)
  have hP : va_P (dC, dI) vwCl [(h0, .inr (0, [.int 0, .int 0, .int 0, .int 0, .int 0, .int 0, .ref qn_1, .int 0, .int 0, .int 0, .int 0])), (qn_1, .inl (cn_2, 96, .inl (fun _ => 0)))] H := hP
  have hD : va_D A [(h0, .inr (0, [.int 0, .int 0, .int 0, .int 0, .int 0, .int 0, .ref qn_1, .int 0, .int 0, .int 0, .int 0])), (qn_1, .inl (cn_2, 96, .inl (fun _ => 0)))] := hD
  refine lv_aload_n hx hb dX0_init_12 rfl (lv_at hl 0 rfl) ?_
  refine lv_iconst (v := 1) hx hb dX0_init_13 (by first | rfl | decide) ?_
  refine lv_iconst (v := 1) hx hb dX0_init_14 (by first | rfl | decide) ?_
  refine lv_iconst (v := 3) hx hb dX0_init_15 (by first | rfl | decide) ?_
  refine lv_bipush (v := 64) hx hb dX0_init_16 (by first | rfl | decide) ?_
  have hPc := hP.sub (ws' := [(h0, .inr (0, [.int 0, .int 0, .int 0, .int 0, .int 0, .int 0, .ref qn_1, .int 0, .int 0, .int 0, .int 0])), (qn_1, .inl (cn_2, 96, .inl (fun _ => 0)))]) [0, 1] rfl
  have hDc := hD.sub (ws' := [(h0, .inr (0, [.int 0, .int 0, .int 0, .int 0, .int 0, .int 0, .ref qn_1, .int 0, .int 0, .int 0, .int 0])), (qn_1, .inl (cn_2, 96, .inl (fun _ => 0)))]) [0, 1] (by decide) rfl
  have hKc := hK.sub (tys' := [(cn_2, .int)]) [0] rfl
  have hFc := va_free (wc := [(h0, .inr (0, [.int 0, .int 0, .int 0, .int 0, .int 0, .int 0, .ref qn_1, .int 0, .int 0, .int 0, .int 0])), (qn_1, .inl (cn_2, 96, .inl (fun _ => 0)))]) hD hS hA [0, 1] rfl
  refine va_callv (va_runV (As := [.int 1, .int 1, .int 3, .int 64]) (rest := []) ⟨hx, hb, hml, hown, hts⟩ (mtX0_layOut l dC dI h0 qn_1 cn_2 0 0 0 0 0 0 0 0 0 0 96 (fun _ => 0) H.size 1 1 3 64) (cwV 4 hts (gb_v kw_41 kw_43 kw_0 kw_22 kw_44) rfl rfl rfl (by decide +kernel) ⟨Nat.le_of_ble_eq_true rfl, Nat.le_of_ble_eq_true rfl⟩) ⟨mu_P.blind, va_recv hKc hPc (ci := 0) (q0 := 0) rfl rfl, mu_P.at hPc hKc hDc⟩ rfl rfl hl.1 rfl (lv_room (Nat.le_of_ble_eq_true rfl)) dX0_init_18 ⟨Nat.le_of_ble_eq_true rfl, Nat.le_of_ble_eq_true rfl⟩) hS (fun q _ h => hFc q h) hFc (fun u t H1 locs ht hvm hw hB hz1 hk1 hS => ?_)
  have hw : u = tb_lay 96 (fun _ => 0) 1 1 3 64 := hw
  subst hw
  obtain ⟨q1_3, cA_4, hP1, hK1, hD1⟩ := hB
  rw [ht] at hP1
  have hK1 := va_K.moved hvm.symm hK1
  obtain ⟨hP, hD⟩ := va_join (wr := []) (w1 := [(h0, .inr (0, [.int 1, .int 1, .int 3, .int (tb_across 3 0 1), .int (tb_across 3 0 1), .int 64, .ref q1_3, .int 0, .int 0, .int (-1), .int 0])), (q1_3, .inl (cA_4, 96, .inl (fun _ => 0)))]) hP hD [0, 1] [] rfl rfl (by decide) (by decide) hk1 hFc hP1 hD1
  have hK := (hK.sub (tys' := []) [] rfl).app hK1
  generalize H1 = H at hP hS ⊢
  have hP : va_P (dC, dI) vwCl [(h0, .inr (0, [.int 1, .int 1, .int 3, .int (tb_across 3 0 1), .int (tb_across 3 0 1), .int 64, .ref q1_3, .int 0, .int 0, .int (-1), .int 0])), (q1_3, .inl (cA_4, 96, .inl (fun _ => 0)))] H := hP
  have hD : va_D A [(h0, .inr (0, [.int 1, .int 1, .int 3, .int (tb_across 3 0 1), .int (tb_across 3 0 1), .int 64, .ref q1_3, .int 0, .int 0, .int (-1), .int 0])), (q1_3, .inl (cA_4, 96, .inl (fun _ => 0)))] := hD
  have hK : va_K (dC, dI) vwCl [(cA_4, .int)] s := hK
  exact W.vret hx hb hr (fun t ht hW => ⟨⟨(1, 1, 3, (tb_across 3 0 1), (tb_across 3 0 1), 64, 0, 0, (-1), 0, 96, (fun _ => 0)), rfl, rfl, q1_3, cA_4, by rw [ht]; exact hP, va_K.moved hW.alike hK, hD⟩, hS.F ht⟩) hS.2.2 dX0_init_21
def tb_empty (fw fh fs fc fl fe : Int32) (an : Nat) (af : Nat → Int32) : TBA := (fw, fh, fs, fc, fl, fe, 0, 0, (-1), 0, an, af)
set_option maxHeartbeats 4000000 in
set_option maxRecDepth 100000 in
theorem mtX0_empty (l : Launch) (dC : Nat → ClassId) (dI : Nat → Nat → Nat) (h0 q1 : Nat) (cA : ClassId) (fw fh fs fc fl fe fi ft fo fa : Int32) (an : Nat) (af : Nat → Int32) (sz : Nat) : Met l yX0_empty wsX0_empty ({ frames := 1, cells := 0, slots := 0, locals := 20 }) (va_Pc [.ref h0] (mu_P (dC, dI) vwCl [(h0, .inr (0, [.int fw, .int fh, .int fs, .int fc, .int fl, .int fe, .ref q1, .int fi, .int ft, .int fo, .int fa])), (q1, .inl (cA, an, .inl af))] [(cA, .int)] sz)) (va_Qv (fun u : TBA => u = tb_empty fw fh fs fc fl fe an af) (tbAt (dC, dI) (va_A [(h0, .inr (0, [.int fw, .int fh, .int fs, .int fc, .int fl, .int fe, .ref q1, .int fi, .int ft, .int fo, .int fa])), (q1, .inl (cA, an, .inl af))] sz) h0) (va_A [(h0, .inr (0, [.int fw, .int fh, .int fs, .int fc, .int fl, .int fe, .ref q1, .int fi, .int ft, .int fo, .int fa])), (q1, .inl (cA, an, .inl af))] sz)) 0 0 (va_A [(h0, .inr (0, [.int fw, .int fh, .int fs, .int fc, .int fl, .int fe, .ref q1, .int fi, .int ft, .int fo, .int fa])), (q1, .inl (cA, an, .inl af))] sz) := by
  refine Met.ofW (cc := cX0_empty) (maxL := 1) (ret := none) (by decide) rfl ?_
  intro p e s m args below meth c s₁ B hml hv
  obtain ⟨rfl, hsz, hP, hK, hD0⟩ := hv
  have hx := B.exec
  have hb := B.bytes
  have hr := B.returns
  have hts : ∀ w ∈ gb, w.before _ s = true := fun w h => atoms_spec (ws := wsX0_empty) B.pre w (List.mem_cons_of_mem _ h)
  have hown : s.vm.findClass "TileBins" = some m.cls := findClass_of_methodNamed B.named
  have hlocks := B.notSynchronized
  subst hsz
  have hD := hD0.self (sz := s.heap.size)
  generalize hAe : va_A [(h0, .inr (0, [.int fw, .int fh, .int fs, .int fc, .int fl, .int fe, .ref q1, .int fi, .int ft, .int fo, .int fa])), (q1, .inl (cA, an, .inl af))] s.heap.size = A at hD ⊢
  have hA : ∀ q : Nat, s.heap.size ≤ q → A q := fun q h => by rw [← hAe]; exact Or.inr h
  have hS : va_S A s.heap s.heap [] := va_S.rf
  have hP : va_P (dC, dI) vwCl [(h0, .inr (0, [.int fw, .int fh, .int fs, .int fc, .int fl, .int fe, .ref q1, .int fi, .int ft, .int fo, .int fa])), (q1, .inl (cA, an, .inl af))] s.heap := hP
  have hl := lv_entry ([.ref h0]) (n := 1) (Nat.le_of_ble_eq_true rfl)
  rw [lg_entry_eq]
  generalize (lg_sl ([.ref h0]) ++ List.replicate (1 - (lg_sl ([.ref h0])).length) Slot.unset).toArray = ls at hl ⊢
  have hl : lv_has ls 1 [(0, .ref h0)] := hl
  refine lv_aload_n hx hb dX0_empty_0 rfl (lv_at hl 0 rfl) ?_
  have hPc := hP.sub (ws' := [(h0, .inr (0, [.int fw, .int fh, .int fs, .int fc, .int fl, .int fe, .ref q1, .int fi, .int ft, .int fo, .int fa])), (q1, .inl (cA, an, .inl af))]) [0, 1] rfl
  have hDc := hD.sub (ws' := [(h0, .inr (0, [.int fw, .int fh, .int fs, .int fc, .int fl, .int fe, .ref q1, .int fi, .int ft, .int fo, .int fa])), (q1, .inl (cA, an, .inl af))]) [0, 1] (by decide) rfl
  have hKc := hK.sub (tys' := [(cA, .int)]) [0] rfl
  have hFc := va_free (wc := [(h0, .inr (0, [.int fw, .int fh, .int fs, .int fc, .int fl, .int fe, .ref q1, .int fi, .int ft, .int fo, .int fa])), (q1, .inl (cA, an, .inl af))]) hD hS hA [0, 1] rfl
  refine va_callv (va_runV (As := []) (rest := []) ⟨hx, hb, hml, hown, hts⟩ (mtX0_takeAllOut l dC dI h0 q1 cA fw fh fs fc fl fe fi ft fo fa an af s.heap.size ) (cwV 0 hts (gb_v kw_49 kw_51 kw_2 kw_22 kw_52) rfl rfl rfl (by decide +kernel) ⟨Nat.le_of_ble_eq_true rfl, Nat.le_of_ble_eq_true rfl⟩) ⟨mu_P.blind, va_recv hKc hPc (ci := 0) (q0 := 0) rfl rfl, mu_P.at hPc hKc hDc⟩ rfl rfl hl.1 rfl (lv_room (Nat.le_of_ble_eq_true rfl)) dX0_empty_1 ⟨Nat.le_of_ble_eq_true rfl, Nat.le_of_ble_eq_true rfl⟩) hS (fun q _ h => hFc q h) hFc (fun u t H1 locs ht hvm hw hB hz1 hk1 hS => ?_)
  have hw : u = tb_taken0 fw fh fs fc fl fe an af := hw
  subst hw
  obtain ⟨q1_1, cA_2, hP1, hK1, hD1⟩ := hB
  rw [ht] at hP1
  have hK1 := va_K.moved hvm.symm hK1
  obtain ⟨hP, hD⟩ := va_join (wr := []) (w1 := [(h0, .inr (0, [.int fw, .int fh, .int fs, .int fc, .int fl, .int fe, .ref q1_1, .int 0, .int 0, .int (-1), .int 0])), (q1_1, .inl (cA_2, an, .inl af))]) hP hD [0, 1] [] rfl rfl (by decide) (by decide) hk1 hFc hP1 hD1
  have hK := (hK.sub (tys' := []) [] rfl).app hK1
  generalize H1 = H at hP hS ⊢
  have hP : va_P (dC, dI) vwCl [(h0, .inr (0, [.int fw, .int fh, .int fs, .int fc, .int fl, .int fe, .ref q1_1, .int 0, .int 0, .int (-1), .int 0])), (q1_1, .inl (cA_2, an, .inl af))] H := hP
  have hD : va_D A [(h0, .inr (0, [.int fw, .int fh, .int fs, .int fc, .int fl, .int fe, .ref q1_1, .int 0, .int 0, .int (-1), .int 0])), (q1_1, .inl (cA_2, an, .inl af))] := hD
  have hK : va_K (dC, dI) vwCl [(cA_2, .int)] s := hK
  exact W.vret hx hb hr (fun t ht hW => ⟨⟨(fw, fh, fs, fc, fl, fe, 0, 0, (-1), 0, an, af), rfl, rfl, q1_1, cA_2, by rw [ht]; exact hP, va_K.moved hW.alike hK, hD⟩, hS.F ht⟩) hS.2.2 dX0_empty_4
