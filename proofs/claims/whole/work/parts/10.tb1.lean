def tb_across (fs a1 a2 : Int32) : Int32 := (((a2 - 1) >>> (fs &&& 31)) - (a1 >>> (fs &&& 31))) + 1
set_option maxHeartbeats 4000000 in
set_option maxRecDepth 100000 in
theorem mtX0_tilesAcross (l : Launch) (dC : Nat → ClassId) (dI : Nat → Nat → Nat) (h0 q1 : Nat) (cA : ClassId) (fw fh fs fc fl fe fi ft fo fa : Int32) (an : Nat) (af : Nat → Int32) (sz : Nat) (a1 a2 : Int32) : Met l yX0_tilesAcross wsX0_tilesAcross ({ frames := 0, cells := 0, slots := 0, locals := 0 }) (va_Pc [.ref h0, .int a1, .int a2] (ro_P (dC, dI) vwCl [(h0, .inr (0, [.int fw, .int fh, .int fs, .int fc, .int fl, .int fe, .ref q1, .int fi, .int ft, .int fo, .int fa])), (q1, .inl (cA, an, .inl af))] [(cA, .int)] sz)) (va_Qi (fun (r : Int32) (_ : Unit) => r = tb_across fs a1 a2) (fun _ _ => True) (ro_A sz)) 0 0 (ro_A sz) := by
  refine Met.ofW (cc := cX0_tilesAcross) (maxL := 3) (ret := (some .int)) (by decide) rfl ?_
  intro p e s m args below meth c s₁ B hml hv
  obtain ⟨rfl, hsz, hP, hK⟩ := hv
  have hx := B.exec
  have hb := B.bytes
  have hr := B.returns
  have hts : ∀ w ∈ gb, w.before _ s = true := fun w h => atoms_spec (ws := wsX0_tilesAcross) B.pre w (List.mem_cons_of_mem _ h)
  have hown : s.vm.findClass "TileBins" = some m.cls := findClass_of_methodNamed B.named
  have hlocks := B.notSynchronized
  subst hsz
  have hA : ∀ q : Nat, s.heap.size ≤ q → ro_A s.heap.size q := fun q h => h
  have hS : va_S (ro_A s.heap.size) s.heap s.heap [] := va_S.rf
  have hl := lv_entry ([.ref h0, .int a1, .int a2]) (n := 3) (Nat.le_of_ble_eq_true rfl)
  rw [lg_entry_eq]
  generalize (lg_sl ([.ref h0, .int a1, .int a2]) ++ List.replicate (3 - (lg_sl ([.ref h0, .int a1, .int a2])).length) Slot.unset).toArray = ls at hl ⊢
  have hl : lv_has ls 3 [(0, .ref h0), (1, .int a1), (2, .int a2)] := hl
  refine lv_iload_n hx hb dX0_tilesAcross_0 rfl (lv_at hl 2 rfl) ?_
  refine lv_iconst (v := 1) hx hb dX0_tilesAcross_1 (by first | rfl | decide) ?_
  refine lv_isub hx hb dX0_tilesAcross_2 ?_
  refine lv_aload_n hx hb dX0_tilesAcross_3 rfl (lv_at hl 0 rfl) ?_
  refine va_get (D := (dC, dI)) (ci := 0) (v := .int fs) (C := "TileBins") (T := TX0) (N := 11) hx hb hts inX0 hown hK hP 0 rfl rfl 2 (by decide) (hts _ kw_55) (fun _ h9 => h9) rfl dX0_tilesAcross_4 ?_
  refine lv_ishr hx hb dX0_tilesAcross_7 ?_
  refine lv_iload_n hx hb dX0_tilesAcross_8 rfl (lv_at hl 1 rfl) ?_
  refine lv_aload_n hx hb dX0_tilesAcross_9 rfl (lv_at hl 0 rfl) ?_
  refine va_get (D := (dC, dI)) (ci := 0) (v := .int fs) (C := "TileBins") (T := TX0) (N := 11) hx hb hts inX0 hown hK hP 0 rfl rfl 2 (by decide) (hts _ kw_55) (fun _ h9 => h9) rfl dX0_tilesAcross_10 ?_
  refine lv_ishr hx hb dX0_tilesAcross_13 ?_
  refine lv_isub hx hb dX0_tilesAcross_14 ?_
  refine lv_iconst (v := 1) hx hb dX0_tilesAcross_15 (by first | rfl | decide) ?_
  refine lv_iadd hx hb dX0_tilesAcross_16 ?_
  exact W.iret (v := (((a2 - 1) >>> (fs &&& 31)) - (a1 >>> (fs &&& 31))) + 1) hx hb hr (fun t ht hW => ⟨⟨_, (), rfl, rfl, trivial⟩, hS.F ht⟩) hS.2.2 dX0_tilesAcross_17
def tb_tiles (fc fl : Int32) : Int32 := fc * fl
set_option maxHeartbeats 4000000 in
set_option maxRecDepth 100000 in
theorem mtX0_tilesInAll (l : Launch) (dC : Nat → ClassId) (dI : Nat → Nat → Nat) (h0 q1 : Nat) (cA : ClassId) (fw fh fs fc fl fe fi ft fo fa : Int32) (an : Nat) (af : Nat → Int32) (sz : Nat) : Met l yX0_tilesInAll wsX0_tilesInAll ({ frames := 0, cells := 0, slots := 0, locals := 0 }) (va_Pc [.ref h0] (ro_P (dC, dI) vwCl [(h0, .inr (0, [.int fw, .int fh, .int fs, .int fc, .int fl, .int fe, .ref q1, .int fi, .int ft, .int fo, .int fa])), (q1, .inl (cA, an, .inl af))] [(cA, .int)] sz)) (va_Qi (fun (r : Int32) (_ : Unit) => r = tb_tiles fc fl) (fun _ _ => True) (ro_A sz)) 0 0 (ro_A sz) := by
  refine Met.ofW (cc := cX0_tilesInAll) (maxL := 1) (ret := (some .int)) (by decide) rfl ?_
  intro p e s m args below meth c s₁ B hml hv
  obtain ⟨rfl, hsz, hP, hK⟩ := hv
  have hx := B.exec
  have hb := B.bytes
  have hr := B.returns
  have hts : ∀ w ∈ gb, w.before _ s = true := fun w h => atoms_spec (ws := wsX0_tilesInAll) B.pre w (List.mem_cons_of_mem _ h)
  have hown : s.vm.findClass "TileBins" = some m.cls := findClass_of_methodNamed B.named
  have hlocks := B.notSynchronized
  subst hsz
  have hA : ∀ q : Nat, s.heap.size ≤ q → ro_A s.heap.size q := fun q h => h
  have hS : va_S (ro_A s.heap.size) s.heap s.heap [] := va_S.rf
  have hl := lv_entry ([.ref h0]) (n := 1) (Nat.le_of_ble_eq_true rfl)
  rw [lg_entry_eq]
  generalize (lg_sl ([.ref h0]) ++ List.replicate (1 - (lg_sl ([.ref h0])).length) Slot.unset).toArray = ls at hl ⊢
  have hl : lv_has ls 1 [(0, .ref h0)] := hl
  refine lv_aload_n hx hb dX0_tilesInAll_0 rfl (lv_at hl 0 rfl) ?_
  refine va_get (D := (dC, dI)) (ci := 0) (v := .int fc) (C := "TileBins") (T := TX0) (N := 11) hx hb hts inX0 hown hK hP 0 rfl rfl 3 (by decide) (hts _ kw_56) (fun _ h9 => h9) rfl dX0_tilesInAll_1 ?_
  refine lv_aload_n hx hb dX0_tilesInAll_4 rfl (lv_at hl 0 rfl) ?_
  refine va_get (D := (dC, dI)) (ci := 0) (v := .int fl) (C := "TileBins") (T := TX0) (N := 11) hx hb hts inX0 hown hK hP 0 rfl rfl 4 (by decide) (hts _ kw_57) (fun _ h9 => h9) rfl dX0_tilesInAll_5 ?_
  refine lv_imul hx hb dX0_tilesInAll_8 ?_
  exact W.iret (v := fc * fl) hx hb hr (fun t ht hW => ⟨⟨_, (), rfl, rfl, trivial⟩, hS.F ht⟩) hS.2.2 dX0_tilesInAll_9
def tb_isTile (fc fl a1 : Int32) : Int32 := (if a1 < 0 then 0 else (if (tb_tiles fc fl) ≤ a1 then 0 else 1))
set_option maxHeartbeats 4000000 in
set_option maxRecDepth 100000 in
theorem mtX0_isTile (l : Launch) (dC : Nat → ClassId) (dI : Nat → Nat → Nat) (h0 q1 : Nat) (cA : ClassId) (fw fh fs fc fl fe fi ft fo fa : Int32) (an : Nat) (af : Nat → Int32) (sz : Nat) (a1 : Int32) : Met l yX0_isTile wsX0_isTile ({ frames := 1, cells := 0, slots := 0, locals := 20 }) (va_Pc [.ref h0, .int a1] (ro_P (dC, dI) vwCl [(h0, .inr (0, [.int fw, .int fh, .int fs, .int fc, .int fl, .int fe, .ref q1, .int fi, .int ft, .int fo, .int fa])), (q1, .inl (cA, an, .inl af))] [(cA, .int)] sz)) (va_Qi (fun (r : Int32) (_ : Unit) => r = tb_isTile fc fl a1) (fun _ _ => True) (ro_A sz)) 0 0 (ro_A sz) := by
  refine Met.ofW (cc := cX0_isTile) (maxL := 2) (ret := (some .boolean)) (by decide) rfl ?_
  intro p e s m args below meth c s₁ B hml hv
  obtain ⟨rfl, hsz, hP, hK⟩ := hv
  have hx := B.exec
  have hb := B.bytes
  have hr := B.returns
  have hts : ∀ w ∈ gb, w.before _ s = true := fun w h => atoms_spec (ws := wsX0_isTile) B.pre w (List.mem_cons_of_mem _ h)
  have hown : s.vm.findClass "TileBins" = some m.cls := findClass_of_methodNamed B.named
  have hlocks := B.notSynchronized
  subst hsz
  have hA : ∀ q : Nat, s.heap.size ≤ q → ro_A s.heap.size q := fun q h => h
  have hS : va_S (ro_A s.heap.size) s.heap s.heap [] := va_S.rf
  have hl := lv_entry ([.ref h0, .int a1]) (n := 2) (Nat.le_of_ble_eq_true rfl)
  rw [lg_entry_eq]
  generalize (lg_sl ([.ref h0, .int a1]) ++ List.replicate (2 - (lg_sl ([.ref h0, .int a1])).length) Slot.unset).toArray = ls at hl ⊢
  have hl : lv_has ls 2 [(0, .ref h0), (1, .int a1)] := hl
  refine lv_iload_n hx hb dX0_isTile_0 rfl (lv_at hl 1 rfl) ?_
  refine lv_if_lt (tgt := 16) hx hb dX0_isTile_1 (by decide) (fun c_1 => ?_) (fun c_1 => ?_)
  · refine lv_iconst (v := 0) hx hb dX0_isTile_16 (by first | rfl | decide) ?_
    exact W.zret (v := 0) hx hb hr (by rfl) (fun t ht hW => ⟨⟨_, (), rfl, (show 0 = tb_isTile fc fl a1 by unfold tb_isTile; rw [if_pos c_1]), trivial⟩, hS.F ht⟩) hS.2.2 dX0_isTile_17
  · refine lv_iload_n hx hb dX0_isTile_4 rfl (lv_at hl 1 rfl) ?_
    refine lv_aload_n hx hb dX0_isTile_5 rfl (lv_at hl 0 rfl) ?_
    refine ro_calli (va_runV (As := []) (rest := [.int a1]) ⟨hx, hb, hml, hown, hts⟩ (mtX0_tilesInAll l dC dI h0 q1 cA fw fh fs fc fl fe fi ft fo fa an af s.heap.size ) (cwV 0 hts (gb_v kw_176 kw_178 kw_4 kw_22 kw_179) rfl rfl rfl (by decide +kernel) ⟨Nat.le_of_ble_eq_true rfl, Nat.le_of_ble_eq_true rfl⟩) ⟨ro_P.blind, va_recv hK hP (ci := 0) (q0 := 0) rfl rfl, ro_P.at hP hK⟩ rfl rfl hl.1 rfl (lv_room (Nat.le_of_ble_eq_true rfl)) dX0_isTile_6 ⟨Nat.le_of_ble_eq_true rfl, Nat.le_of_ble_eq_true rfl⟩) hP hS hA (fun H locs hP hS hz hk => ?_)
    refine lv_icmp_ge (tgt := 16) hx hb dX0_isTile_9 (by decide) (fun c_2 => ?_) (fun c_2 => ?_)
    · refine lv_iconst (v := 0) hx hb dX0_isTile_16 (by first | rfl | decide) ?_
      exact W.zret (v := 0) hx hb hr (by rfl) (fun t ht hW => ⟨⟨_, (), rfl, (show 0 = tb_isTile fc fl a1 by unfold tb_isTile; rw [if_neg c_1, if_pos c_2]), trivial⟩, hS.F ht⟩) hS.2.2 dX0_isTile_17
    · refine lv_iconst (v := 1) hx hb dX0_isTile_12 (by first | rfl | decide) ?_
      refine lv_goto (tgt := 17) hx hb dX0_isTile_13 (by decide) ?_
      exact W.zret (v := 1) hx hb hr (by rfl) (fun t ht hW => ⟨⟨_, (), rfl, (show 1 = tb_isTile fc fl a1 by unfold tb_isTile; rw [if_neg c_1, if_neg c_2]), trivial⟩, hS.F ht⟩) hS.2.2 dX0_isTile_17
def tb_side (fs : Int32) : Int32 := 1 <<< (fs &&& 31)
set_option maxHeartbeats 4000000 in
set_option maxRecDepth 100000 in
theorem mtX0_sideLength (l : Launch) (dC : Nat → ClassId) (dI : Nat → Nat → Nat) (h0 q1 : Nat) (cA : ClassId) (fw fh fs fc fl fe fi ft fo fa : Int32) (an : Nat) (af : Nat → Int32) (sz : Nat) : Met l yX0_sideLength wsX0_sideLength ({ frames := 0, cells := 0, slots := 0, locals := 0 }) (va_Pc [.ref h0] (ro_P (dC, dI) vwCl [(h0, .inr (0, [.int fw, .int fh, .int fs, .int fc, .int fl, .int fe, .ref q1, .int fi, .int ft, .int fo, .int fa])), (q1, .inl (cA, an, .inl af))] [(cA, .int)] sz)) (va_Qi (fun (r : Int32) (_ : Unit) => r = tb_side fs) (fun _ _ => True) (ro_A sz)) 0 0 (ro_A sz) := by
  refine Met.ofW (cc := cX0_sideLength) (maxL := 1) (ret := (some .int)) (by decide) rfl ?_
  intro p e s m args below meth c s₁ B hml hv
  obtain ⟨rfl, hsz, hP, hK⟩ := hv
  have hx := B.exec
  have hb := B.bytes
  have hr := B.returns
  have hts : ∀ w ∈ gb, w.before _ s = true := fun w h => atoms_spec (ws := wsX0_sideLength) B.pre w (List.mem_cons_of_mem _ h)
  have hown : s.vm.findClass "TileBins" = some m.cls := findClass_of_methodNamed B.named
  have hlocks := B.notSynchronized
  subst hsz
  have hA : ∀ q : Nat, s.heap.size ≤ q → ro_A s.heap.size q := fun q h => h
  have hS : va_S (ro_A s.heap.size) s.heap s.heap [] := va_S.rf
  have hl := lv_entry ([.ref h0]) (n := 1) (Nat.le_of_ble_eq_true rfl)
  rw [lg_entry_eq]
  generalize (lg_sl ([.ref h0]) ++ List.replicate (1 - (lg_sl ([.ref h0])).length) Slot.unset).toArray = ls at hl ⊢
  have hl : lv_has ls 1 [(0, .ref h0)] := hl
  refine lv_iconst (v := 1) hx hb dX0_sideLength_0 (by first | rfl | decide) ?_
  refine lv_aload_n hx hb dX0_sideLength_1 rfl (lv_at hl 0 rfl) ?_
  refine va_get (D := (dC, dI)) (ci := 0) (v := .int fs) (C := "TileBins") (T := TX0) (N := 11) hx hb hts inX0 hown hK hP 0 rfl rfl 2 (by decide) (hts _ kw_55) (fun _ h9 => h9) rfl dX0_sideLength_2 ?_
  refine lv_ishl hx hb dX0_sideLength_5 ?_
  exact W.iret (v := 1 <<< (fs &&& 31)) hx hb hr (fun t ht hW => ⟨⟨_, (), rfl, rfl, trivial⟩, hS.F ht⟩) hS.2.2 dX0_sideLength_6
def tb_left (fs fc a1 : Int32) : Int32 := (if fc ≤ 0 then 0 else (a1 - a1 / fc * fc) <<< (fs &&& 31))
set_option maxHeartbeats 4000000 in
set_option maxRecDepth 100000 in
theorem mtX0_leftOf (l : Launch) (dC : Nat → ClassId) (dI : Nat → Nat → Nat) (h0 q1 : Nat) (cA : ClassId) (fw fh fs fc fl fe fi ft fo fa : Int32) (an : Nat) (af : Nat → Int32) (sz : Nat) (a1 : Int32) : Met l yX0_leftOf wsX0_leftOf ({ frames := 0, cells := 0, slots := 0, locals := 0 }) (va_Pc [.ref h0, .int a1] (ro_P (dC, dI) vwCl [(h0, .inr (0, [.int fw, .int fh, .int fs, .int fc, .int fl, .int fe, .ref q1, .int fi, .int ft, .int fo, .int fa])), (q1, .inl (cA, an, .inl af))] [(cA, .int)] sz)) (va_Qi (fun (r : Int32) (_ : Unit) => r = tb_left fs fc a1) (fun _ _ => True) (ro_A sz)) 0 0 (ro_A sz) := by
  refine Met.ofW (cc := cX0_leftOf) (maxL := 2) (ret := (some .int)) (by decide) rfl ?_
  intro p e s m args below meth c s₁ B hml hv
  obtain ⟨rfl, hsz, hP, hK⟩ := hv
  have hx := B.exec
  have hb := B.bytes
  have hr := B.returns
  have hts : ∀ w ∈ gb, w.before _ s = true := fun w h => atoms_spec (ws := wsX0_leftOf) B.pre w (List.mem_cons_of_mem _ h)
  have hown : s.vm.findClass "TileBins" = some m.cls := findClass_of_methodNamed B.named
  have hlocks := B.notSynchronized
  subst hsz
  have hA : ∀ q : Nat, s.heap.size ≤ q → ro_A s.heap.size q := fun q h => h
  have hS : va_S (ro_A s.heap.size) s.heap s.heap [] := va_S.rf
  have hl := lv_entry ([.ref h0, .int a1]) (n := 2) (Nat.le_of_ble_eq_true rfl)
  rw [lg_entry_eq]
  generalize (lg_sl ([.ref h0, .int a1]) ++ List.replicate (2 - (lg_sl ([.ref h0, .int a1])).length) Slot.unset).toArray = ls at hl ⊢
  have hl : lv_has ls 2 [(0, .ref h0), (1, .int a1)] := hl
  refine lv_aload_n hx hb dX0_leftOf_0 rfl (lv_at hl 0 rfl) ?_
  refine va_get (D := (dC, dI)) (ci := 0) (v := .int fc) (C := "TileBins") (T := TX0) (N := 11) hx hb hts inX0 hown hK hP 0 rfl rfl 3 (by decide) (hts _ kw_56) (fun _ h9 => h9) rfl dX0_leftOf_1 ?_
  refine lv_if_le (tgt := 21) hx hb dX0_leftOf_4 (by decide) (fun c_1 => ?_) (fun c_1 => ?_)
  · refine lv_iconst (v := 0) hx hb dX0_leftOf_21 (by first | rfl | decide) ?_
    exact W.iret (v := 0) hx hb hr (fun t ht hW => ⟨⟨_, (), rfl, (show 0 = tb_left fs fc a1 by unfold tb_left; rw [if_pos c_1]), trivial⟩, hS.F ht⟩) hS.2.2 dX0_leftOf_22
  · refine lv_iload_n hx hb dX0_leftOf_7 rfl (lv_at hl 1 rfl) ?_
    refine lv_aload_n hx hb dX0_leftOf_8 rfl (lv_at hl 0 rfl) ?_
    refine va_get (D := (dC, dI)) (ci := 0) (v := .int fc) (C := "TileBins") (T := TX0) (N := 11) hx hb hts inX0 hown hK hP 0 rfl rfl 3 (by decide) (hts _ kw_56) (fun _ h9 => h9) rfl dX0_leftOf_9 ?_
    refine lv_irem hx hb dX0_leftOf_12 (fun h => c_1 (by rw [h]; decide)) ?_
    refine lv_aload_n hx hb dX0_leftOf_13 rfl (lv_at hl 0 rfl) ?_
    refine va_get (D := (dC, dI)) (ci := 0) (v := .int fs) (C := "TileBins") (T := TX0) (N := 11) hx hb hts inX0 hown hK hP 0 rfl rfl 2 (by decide) (hts _ kw_55) (fun _ h9 => h9) rfl dX0_leftOf_14 ?_
    refine lv_ishl hx hb dX0_leftOf_17 ?_
    refine lv_goto (tgt := 22) hx hb dX0_leftOf_18 (by decide) ?_
    exact W.iret (v := (a1 - a1 / fc * fc) <<< (fs &&& 31)) hx hb hr (fun t ht hW => ⟨⟨_, (), rfl, (show (a1 - a1 / fc * fc) <<< (fs &&& 31) = tb_left fs fc a1 by unfold tb_left; rw [if_neg c_1]), trivial⟩, hS.F ht⟩) hS.2.2 dX0_leftOf_22
def tb_top (fs fc a1 : Int32) : Int32 := (if fc ≤ 0 then 0 else (a1 / fc) <<< (fs &&& 31))
set_option maxHeartbeats 4000000 in
set_option maxRecDepth 100000 in
theorem mtX0_topOf (l : Launch) (dC : Nat → ClassId) (dI : Nat → Nat → Nat) (h0 q1 : Nat) (cA : ClassId) (fw fh fs fc fl fe fi ft fo fa : Int32) (an : Nat) (af : Nat → Int32) (sz : Nat) (a1 : Int32) : Met l yX0_topOf wsX0_topOf ({ frames := 0, cells := 0, slots := 0, locals := 0 }) (va_Pc [.ref h0, .int a1] (ro_P (dC, dI) vwCl [(h0, .inr (0, [.int fw, .int fh, .int fs, .int fc, .int fl, .int fe, .ref q1, .int fi, .int ft, .int fo, .int fa])), (q1, .inl (cA, an, .inl af))] [(cA, .int)] sz)) (va_Qi (fun (r : Int32) (_ : Unit) => r = tb_top fs fc a1) (fun _ _ => True) (ro_A sz)) 0 0 (ro_A sz) := by
  refine Met.ofW (cc := cX0_topOf) (maxL := 2) (ret := (some .int)) (by decide) rfl ?_
  intro p e s m args below meth c s₁ B hml hv
  obtain ⟨rfl, hsz, hP, hK⟩ := hv
  have hx := B.exec
  have hb := B.bytes
  have hr := B.returns
  have hts : ∀ w ∈ gb, w.before _ s = true := fun w h => atoms_spec (ws := wsX0_topOf) B.pre w (List.mem_cons_of_mem _ h)
  have hown : s.vm.findClass "TileBins" = some m.cls := findClass_of_methodNamed B.named
  have hlocks := B.notSynchronized
  subst hsz
  have hA : ∀ q : Nat, s.heap.size ≤ q → ro_A s.heap.size q := fun q h => h
  have hS : va_S (ro_A s.heap.size) s.heap s.heap [] := va_S.rf
  have hl := lv_entry ([.ref h0, .int a1]) (n := 2) (Nat.le_of_ble_eq_true rfl)
  rw [lg_entry_eq]
  generalize (lg_sl ([.ref h0, .int a1]) ++ List.replicate (2 - (lg_sl ([.ref h0, .int a1])).length) Slot.unset).toArray = ls at hl ⊢
  have hl : lv_has ls 2 [(0, .ref h0), (1, .int a1)] := hl
  refine lv_aload_n hx hb dX0_topOf_0 rfl (lv_at hl 0 rfl) ?_
  refine va_get (D := (dC, dI)) (ci := 0) (v := .int fc) (C := "TileBins") (T := TX0) (N := 11) hx hb hts inX0 hown hK hP 0 rfl rfl 3 (by decide) (hts _ kw_56) (fun _ h9 => h9) rfl dX0_topOf_1 ?_
  refine lv_if_le (tgt := 21) hx hb dX0_topOf_4 (by decide) (fun c_1 => ?_) (fun c_1 => ?_)
  · refine lv_iconst (v := 0) hx hb dX0_topOf_21 (by first | rfl | decide) ?_
    exact W.iret (v := 0) hx hb hr (fun t ht hW => ⟨⟨_, (), rfl, (show 0 = tb_top fs fc a1 by unfold tb_top; rw [if_pos c_1]), trivial⟩, hS.F ht⟩) hS.2.2 dX0_topOf_22
  · refine lv_iload_n hx hb dX0_topOf_7 rfl (lv_at hl 1 rfl) ?_
    refine lv_aload_n hx hb dX0_topOf_8 rfl (lv_at hl 0 rfl) ?_
    refine va_get (D := (dC, dI)) (ci := 0) (v := .int fc) (C := "TileBins") (T := TX0) (N := 11) hx hb hts inX0 hown hK hP 0 rfl rfl 3 (by decide) (hts _ kw_56) (fun _ h9 => h9) rfl dX0_topOf_9 ?_
    refine lv_idiv hx hb dX0_topOf_12 (fun h => c_1 (by rw [h]; decide)) ?_
    refine lv_aload_n hx hb dX0_topOf_13 rfl (lv_at hl 0 rfl) ?_
    refine va_get (D := (dC, dI)) (ci := 0) (v := .int fs) (C := "TileBins") (T := TX0) (N := 11) hx hb hts inX0 hown hK hP 0 rfl rfl 2 (by decide) (hts _ kw_55) (fun _ h9 => h9) rfl dX0_topOf_14 ?_
    refine lv_ishl hx hb dX0_topOf_17 ?_
    refine lv_goto (tgt := 22) hx hb dX0_topOf_18 (by decide) ?_
    exact W.iret (v := (a1 / fc) <<< (fs &&& 31)) hx hb hr (fun t ht hW => ⟨⟨_, (), rfl, (show (a1 / fc) <<< (fs &&& 31) = tb_top fs fc a1 by unfold tb_top; rw [if_neg c_1]), trivial⟩, hS.F ht⟩) hS.2.2 dX0_topOf_22
def tb_within (a1 a2 a3 : Int32) : Int32 := (if a1 < a2 then 0 else (if a3 < a1 then 0 else 1))
set_option maxHeartbeats 4000000 in
set_option maxRecDepth 100000 in
theorem mtX0_isWithin (l : Launch) (dC : Nat → ClassId) (dI : Nat → Nat → Nat)  (sz : Nat) (a1 a2 a3 : Int32) : Met l yX0_isWithin wsX0_isWithin ({ frames := 0, cells := 0, slots := 0, locals := 0 }) (va_Pc [.int a1, .int a2, .int a3] (ro_P (dC, dI) vwCl [] [] sz)) (va_Qi (fun (r : Int32) (_ : Unit) => r = tb_within a1 a2 a3) (fun _ _ => True) (ro_A sz)) 0 0 (ro_A sz) := by
  refine Met.ofW (cc := cX0_isWithin) (maxL := 3) (ret := (some .boolean)) (by decide) rfl ?_
  intro p e s m args below meth c s₁ B hml hv
  obtain ⟨rfl, hsz, hP, hK⟩ := hv
  have hx := B.exec
  have hb := B.bytes
  have hr := B.returns
  have hts : ∀ w ∈ gb, w.before _ s = true := fun w h => atoms_spec (ws := wsX0_isWithin) B.pre w (List.mem_cons_of_mem _ h)
  have hown : s.vm.findClass "TileBins" = some m.cls := findClass_of_methodNamed B.named
  have hlocks := B.notSynchronized
  subst hsz
  have hA : ∀ q : Nat, s.heap.size ≤ q → ro_A s.heap.size q := fun q h => h
  have hS : va_S (ro_A s.heap.size) s.heap s.heap [] := va_S.rf
  have hl := lv_entry ([.int a1, .int a2, .int a3]) (n := 3) (Nat.le_of_ble_eq_true rfl)
  rw [lg_entry_eq]
  generalize (lg_sl ([.int a1, .int a2, .int a3]) ++ List.replicate (3 - (lg_sl ([.int a1, .int a2, .int a3])).length) Slot.unset).toArray = ls at hl ⊢
  have hl : lv_has ls 3 [(0, .int a1), (1, .int a2), (2, .int a3)] := hl
  refine lv_iload_n hx hb dX0_isWithin_0 rfl (lv_at hl 0 rfl) ?_
  refine lv_iload_n hx hb dX0_isWithin_1 rfl (lv_at hl 1 rfl) ?_
  refine lv_icmp_lt (tgt := 14) hx hb dX0_isWithin_2 (by decide) (fun c_1 => ?_) (fun c_1 => ?_)
  · refine lv_iconst (v := 0) hx hb dX0_isWithin_14 (by first | rfl | decide) ?_
    exact W.zret (v := 0) hx hb hr (by rfl) (fun t ht hW => ⟨⟨_, (), rfl, (show 0 = tb_within a1 a2 a3 by unfold tb_within; rw [if_pos c_1]), trivial⟩, hS.F ht⟩) hS.2.2 dX0_isWithin_15
  · refine lv_iload_n hx hb dX0_isWithin_5 rfl (lv_at hl 0 rfl) ?_
    refine lv_iload_n hx hb dX0_isWithin_6 rfl (lv_at hl 2 rfl) ?_
    refine lv_icmp_gt (tgt := 14) hx hb dX0_isWithin_7 (by decide) (fun c_2 => ?_) (fun c_2 => ?_)
    · refine lv_iconst (v := 0) hx hb dX0_isWithin_14 (by first | rfl | decide) ?_
      exact W.zret (v := 0) hx hb hr (by rfl) (fun t ht hW => ⟨⟨_, (), rfl, (show 0 = tb_within a1 a2 a3 by unfold tb_within; rw [if_neg c_1, if_pos c_2]), trivial⟩, hS.F ht⟩) hS.2.2 dX0_isWithin_15
    · refine lv_iconst (v := 1) hx hb dX0_isWithin_10 (by first | rfl | decide) ?_
      refine lv_goto (tgt := 15) hx hb dX0_isWithin_11 (by decide) ?_
      exact W.zret (v := 1) hx hb hr (by rfl) (fun t ht hW => ⟨⟨_, (), rfl, (show 1 = tb_within a1 a2 a3 by unfold tb_within; rw [if_neg c_1, if_neg c_2]), trivial⟩, hS.F ht⟩) hS.2.2 dX0_isWithin_15
def tb_power (a1 : Int32) : Int32 := (if a1 = 8 then 3 else (if a1 = 16 then 4 else (if a1 = 32 then 5 else (if a1 = 64 then 6 else (-1)))))
set_option maxHeartbeats 4000000 in
set_option maxRecDepth 100000 in
theorem mtX0_powerOf (l : Launch) (dC : Nat → ClassId) (dI : Nat → Nat → Nat)  (sz : Nat) (a1 : Int32) : Met l yX0_powerOf wsX0_powerOf ({ frames := 0, cells := 0, slots := 0, locals := 0 }) (va_Pc [.int a1] (ro_P (dC, dI) vwCl [] [] sz)) (va_Qi (fun (r : Int32) (_ : Unit) => r = tb_power a1) (fun _ _ => True) (ro_A sz)) 0 0 (ro_A sz) := by
  refine Met.ofW (cc := cX0_powerOf) (maxL := 1) (ret := (some .int)) (by decide) rfl ?_
  intro p e s m args below meth c s₁ B hml hv
  obtain ⟨rfl, hsz, hP, hK⟩ := hv
  have hx := B.exec
  have hb := B.bytes
  have hr := B.returns
  have hts : ∀ w ∈ gb, w.before _ s = true := fun w h => atoms_spec (ws := wsX0_powerOf) B.pre w (List.mem_cons_of_mem _ h)
  have hown : s.vm.findClass "TileBins" = some m.cls := findClass_of_methodNamed B.named
  have hlocks := B.notSynchronized
  subst hsz
  have hA : ∀ q : Nat, s.heap.size ≤ q → ro_A s.heap.size q := fun q h => h
  have hS : va_S (ro_A s.heap.size) s.heap s.heap [] := va_S.rf
  have hl := lv_entry ([.int a1]) (n := 1) (Nat.le_of_ble_eq_true rfl)
  rw [lg_entry_eq]
  generalize (lg_sl ([.int a1]) ++ List.replicate (1 - (lg_sl ([.int a1])).length) Slot.unset).toArray = ls at hl ⊢
  have hl : lv_has ls 1 [(0, .int a1)] := hl
  refine lv_iload_n hx hb dX0_powerOf_0 rfl (lv_at hl 0 rfl) ?_
  rcases Classical.em (a1 = 8) with c_1 | c_1
  · refine lv_lookup (off := 43) (tgt := 44) hx hb dX0_powerOf_1 (by decide) (by rw [c_1]; decide) (by decide) ?_
    refine lv_iconst (v := 3) hx hb dX0_powerOf_44 (by first | rfl | decide) ?_
    exact W.iret (v := 3) hx hb hr (fun t ht hW => ⟨⟨_, (), rfl, (show 3 = tb_power a1 by unfold tb_power; rw [if_pos c_1]), trivial⟩, hS.F ht⟩) hS.2.2 dX0_powerOf_45
  · rcases Classical.em (a1 = 16) with c_2 | c_2
    · refine lv_lookup (off := 45) (tgt := 46) hx hb dX0_powerOf_1 (by decide) (by rw [c_2]; decide) (by decide) ?_
      refine lv_iconst (v := 4) hx hb dX0_powerOf_46 (by first | rfl | decide) ?_
      exact W.iret (v := 4) hx hb hr (fun t ht hW => ⟨⟨_, (), rfl, (show 4 = tb_power a1 by unfold tb_power; rw [if_neg c_1, if_pos c_2]), trivial⟩, hS.F ht⟩) hS.2.2 dX0_powerOf_47
    · rcases Classical.em (a1 = 32) with c_3 | c_3
      · refine lv_lookup (off := 47) (tgt := 48) hx hb dX0_powerOf_1 (by decide) (by rw [c_3]; decide) (by decide) ?_
        refine lv_iconst (v := 5) hx hb dX0_powerOf_48 (by first | rfl | decide) ?_
        exact W.iret (v := 5) hx hb hr (fun t ht hW => ⟨⟨_, (), rfl, (show 5 = tb_power a1 by unfold tb_power; rw [if_neg c_1, if_neg c_2, if_pos c_3]), trivial⟩, hS.F ht⟩) hS.2.2 dX0_powerOf_49
      · rcases Classical.em (a1 = 64) with c_4 | c_4
        · refine lv_lookup (off := 49) (tgt := 50) hx hb dX0_powerOf_1 (by decide) (by rw [c_4]; decide) (by decide) ?_
          refine lv_bipush (v := 6) hx hb dX0_powerOf_50 (by first | rfl | decide) ?_
          exact W.iret (v := 6) hx hb hr (fun t ht hW => ⟨⟨_, (), rfl, (show 6 = tb_power a1 by unfold tb_power; rw [if_neg c_1, if_neg c_2, if_neg c_3, if_pos c_4]), trivial⟩, hS.F ht⟩) hS.2.2 dX0_powerOf_52
        · refine lv_lookup (off := 52) (tgt := 53) hx hb dX0_powerOf_1 (by decide) (by rw [lv_osw c_1 (by decide), lv_osw c_2 (by decide), lv_osw c_3 (by decide), lv_osw c_4 (by decide)]; rfl) (by decide) ?_
          refine lv_iconst (v := (-1)) hx hb dX0_powerOf_53 (by first | rfl | decide) ?_
          exact W.iret (v := (-1)) hx hb hr (fun t ht hW => ⟨⟨_, (), rfl, (show (-1) = tb_power a1 by unfold tb_power; rw [if_neg c_1, if_neg c_2, if_neg c_3, if_neg c_4]), trivial⟩, hS.F ht⟩) hS.2.2 dX0_powerOf_54
