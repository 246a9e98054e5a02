/-! the reference: its state as numbers, and the cells that hold it -/
theorem sw_out3 {x : Int32} (h0 : ¬ x = 0) (h1 : ¬ x = 1) (h2 : ¬ x = 2) : x.toInt < 0 ∨ 2 < x.toInt := by
  have a0 := lv_neT h0 (a := 0) rfl
  have a1 := lv_neT h1 (a := 1) rfl
  have a2 := lv_neT h2 (a := 2) rfl
  omega
theorem sw_out4 {x : Int32} (h0 : ¬ x = 0) (h1 : ¬ x = 1) (h2 : ¬ x = 2) (h3 : ¬ x = 3) : x.toInt < 0 ∨ 3 < x.toInt := by
  have a := sw_out3 h0 h1 h2
  have a3 := lv_neT h3 (a := 3) rfl
  omega
abbrev MDA : Type := Int32 × Int32 × Int32 × Int32 × Int32 × Int32 × Int32 × Int32 × Int32 × (Nat → Int32) × (Nat → Int32) × (Nat → Int32) × (Nat → Int32) × (Nat → Int32)
abbrev mdAt (D : va_G) (A : Nat → Prop) (g0 : Nat) (u : MDA) (t : State) : Prop := match u with
  | (gt, gw, gh, gs, ge, gi, gk, go, ga, f1, f2, f3, f4, f5) => ∃ (r1 r2 r3 r4 r5 : Nat) (cB1 cB2 cB3 cB4 cB5 : ClassId), va_P D vwCl [(g0, .inr (1, [.int gt, .int gw, .int gh, .int gs, .int ge, .int gi, .int gk, .ref r1, .ref r2, .ref r3, .ref r4, .ref r5, .int go, .int ga])), (r1, .inl (cB1, 4096, .inl f1)), (r2, .inl (cB2, 4096, .inl f2)), (r3, .inl (cB3, 4096, .inl f3)), (r4, .inl (cB4, 4096, .inl f4)), (r5, .inl (cB5, 4096, .inl f5))] t.heap ∧ va_K D vwCl [(cB1, .int), (cB2, .int), (cB3, .int), (cB4, .int), (cB5, .int)] t ∧ va_D A [(g0, .inr (1, [.int gt, .int gw, .int gh, .int gs, .int ge, .int gi, .int gk, .ref r1, .ref r2, .ref r3, .ref r4, .ref r5, .int go, .int ga])), (r1, .inl (cB1, 4096, .inl f1)), (r2, .inl (cB2, 4096, .inl f2)), (r3, .inl (cB3, 4096, .inl f3)), (r4, .inl (cB4, 4096, .inl f4)), (r5, .inl (cB5, 4096, .inl f5))]
def md_in (a1 a2 a3 : Int32) : Int32 := (if a1 < a2 then 0 else (if a3 < a1 then 0 else 1))
set_option maxHeartbeats 4000000 in
set_option maxRecDepth 100000 in
theorem mtX1_in (l : Launch) (dC : Nat → ClassId) (dI : Nat → Nat → Nat)  (sz : Nat) (a1 a2 a3 : Int32) : Met l yX1_in wsX1_in ({ frames := 0, cells := 0, slots := 0, locals := 0 }) (va_Pc [.int a1, .int a2, .int a3] (ro_P (dC, dI) vwCl [] [] sz)) (va_Qi (fun (r : Int32) (_ : Unit) => r = md_in a1 a2 a3) (fun _ _ => True) (ro_A sz)) 0 0 (ro_A sz) := by
  refine Met.ofW (cc := cX1_in) (maxL := 3) (ret := (some .boolean)) (by decide) rfl ?_
  intro p e s m args below meth c s₁ B hml hv
  obtain ⟨rfl, hsz, hP, hK⟩ := hv
  have hx := B.exec
  have hb := B.bytes
  have hr := B.returns
  have hts : ∀ w ∈ gb, w.before _ s = true := fun w h => atoms_spec (ws := wsX1_in) B.pre w (List.mem_cons_of_mem _ h)
  have hown : s.vm.findClass "TileBinsModel" = some m.cls := findClass_of_methodNamed B.named
  have hlocks := B.notSynchronized
  subst hsz
  have hA : ∀ q : Nat, s.heap.size ≤ q → ro_A s.heap.size q := fun q h => h
  have hS : va_S (ro_A s.heap.size) s.heap s.heap [] := va_S.rf
  have hl := lv_entry ([.int a1, .int a2, .int a3]) (n := 3) (Nat.le_of_ble_eq_true rfl)
  rw [lg_entry_eq]
  generalize (lg_sl ([.int a1, .int a2, .int a3]) ++ List.replicate (3 - (lg_sl ([.int a1, .int a2, .int a3])).length) Slot.unset).toArray = ls at hl ⊢
  have hl : lv_has ls 3 [(0, .int a1), (1, .int a2), (2, .int a3)] := hl
  refine lv_iload_n hx hb dX1_in_0 rfl (lv_at hl 0 rfl) ?_
  refine lv_iload_n hx hb dX1_in_1 rfl (lv_at hl 1 rfl) ?_
  refine lv_icmp_lt (tgt := 14) hx hb dX1_in_2 (by decide) (fun c_1 => ?_) (fun c_1 => ?_)
  · refine lv_iconst (v := 0) hx hb dX1_in_14 (by first | rfl | decide) ?_
    exact W.zret (v := 0) hx hb hr (by first | rfl | (unfold md_in; (repeat' split) <;> rfl)) (fun t ht hW => ⟨⟨_, (), rfl, (show 0 = md_in a1 a2 a3 by unfold md_in; rw [if_pos c_1]), trivial⟩, hS.F ht⟩) hS.2.2 dX1_in_15
  · refine lv_iload_n hx hb dX1_in_5 rfl (lv_at hl 0 rfl) ?_
    refine lv_iload_n hx hb dX1_in_6 rfl (lv_at hl 2 rfl) ?_
    refine lv_icmp_gt (tgt := 14) hx hb dX1_in_7 (by decide) (fun c_2 => ?_) (fun c_2 => ?_)
    · refine lv_iconst (v := 0) hx hb dX1_in_14 (by first | rfl | decide) ?_
      exact W.zret (v := 0) hx hb hr (by first | rfl | (unfold md_in; (repeat' split) <;> rfl)) (fun t ht hW => ⟨⟨_, (), rfl, (show 0 = md_in a1 a2 a3 by unfold md_in; rw [if_neg c_1, if_pos c_2]), trivial⟩, hS.F ht⟩) hS.2.2 dX1_in_15
    · refine lv_iconst (v := 1) hx hb dX1_in_10 (by first | rfl | decide) ?_
      refine lv_goto (tgt := 15) hx hb dX1_in_11 (by decide) ?_
      exact W.zret (v := 1) hx hb hr (by first | rfl | (unfold md_in; (repeat' split) <;> rfl)) (fun t ht hW => ⟨⟨_, (), rfl, (show 1 = md_in a1 a2 a3 by unfold md_in; rw [if_neg c_1, if_neg c_2]), trivial⟩, hS.F ht⟩) hS.2.2 dX1_in_15
def md_least (a1 a2 : Int32) : Int32 := (if a2 ≤ a1 then a2 else a1)
set_option maxHeartbeats 4000000 in
set_option maxRecDepth 100000 in
theorem mtX1_least (l : Launch) (dC : Nat → ClassId) (dI : Nat → Nat → Nat)  (sz : Nat) (a1 a2 : Int32) : Met l yX1_least wsX1_least ({ frames := 0, cells := 0, slots := 0, locals := 0 }) (va_Pc [.int a1, .int a2] (ro_P (dC, dI) vwCl [] [] sz)) (va_Qi (fun (r : Int32) (_ : Unit) => r = md_least a1 a2) (fun _ _ => True) (ro_A sz)) 0 0 (ro_A sz) := by
  refine Met.ofW (cc := cX1_least) (maxL := 2) (ret := (some .int)) (by decide) rfl ?_
  intro p e s m args below meth c s₁ B hml hv
  obtain ⟨rfl, hsz, hP, hK⟩ := hv
  have hx := B.exec
  have hb := B.bytes
  have hr := B.returns
  have hts : ∀ w ∈ gb, w.before _ s = true := fun w h => atoms_spec (ws := wsX1_least) B.pre w (List.mem_cons_of_mem _ h)
  have hown : s.vm.findClass "TileBinsModel" = some m.cls := findClass_of_methodNamed B.named
  have hlocks := B.notSynchronized
  subst hsz
  have hA : ∀ q : Nat, s.heap.size ≤ q → ro_A s.heap.size q := fun q h => h
  have hS : va_S (ro_A s.heap.size) s.heap s.heap [] := va_S.rf
  have hl := lv_entry ([.int a1, .int a2]) (n := 2) (Nat.le_of_ble_eq_true rfl)
  rw [lg_entry_eq]
  generalize (lg_sl ([.int a1, .int a2]) ++ List.replicate (2 - (lg_sl ([.int a1, .int a2])).length) Slot.unset).toArray = ls at hl ⊢
  have hl : lv_has ls 2 [(0, .int a1), (1, .int a2)] := hl
  refine lv_iload_n hx hb dX1_least_0 rfl (lv_at hl 0 rfl) ?_
  refine lv_iload_n hx hb dX1_least_1 rfl (lv_at hl 1 rfl) ?_
  refine lv_icmp_ge (tgt := 9) hx hb dX1_least_2 (by decide) (fun c_1 => ?_) (fun c_1 => ?_)
  · refine lv_iload_n hx hb dX1_least_9 rfl (lv_at hl 1 rfl) ?_
    exact W.iret (v := a2) hx hb hr (fun t ht hW => ⟨⟨_, (), rfl, (show a2 = md_least a1 a2 by unfold md_least; rw [if_pos c_1]), trivial⟩, hS.F ht⟩) hS.2.2 dX1_least_10
  · refine lv_iload_n hx hb dX1_least_5 rfl (lv_at hl 0 rfl) ?_
    refine lv_goto (tgt := 10) hx hb dX1_least_6 (by decide) ?_
    exact W.iret (v := a1) hx hb hr (fun t ht hW => ⟨⟨_, (), rfl, (show a1 = md_least a1 a2 by unfold md_least; rw [if_neg c_1]), trivial⟩, hS.F ht⟩) hS.2.2 dX1_least_10
def md_great (a1 a2 : Int32) : Int32 := (if a1 ≤ a2 then a2 else a1)
set_option maxHeartbeats 4000000 in
set_option maxRecDepth 100000 in
theorem mtX1_greatest (l : Launch) (dC : Nat → ClassId) (dI : Nat → Nat → Nat)  (sz : Nat) (a1 a2 : Int32) : Met l yX1_greatest wsX1_greatest ({ frames := 0, cells := 0, slots := 0, locals := 0 }) (va_Pc [.int a1, .int a2] (ro_P (dC, dI) vwCl [] [] sz)) (va_Qi (fun (r : Int32) (_ : Unit) => r = md_great a1 a2) (fun _ _ => True) (ro_A sz)) 0 0 (ro_A sz) := by
  refine Met.ofW (cc := cX1_greatest) (maxL := 2) (ret := (some .int)) (by decide) rfl ?_
  intro p e s m args below meth c s₁ B hml hv
  obtain ⟨rfl, hsz, hP, hK⟩ := hv
  have hx := B.exec
  have hb := B.bytes
  have hr := B.returns
  have hts : ∀ w ∈ gb, w.before _ s = true := fun w h => atoms_spec (ws := wsX1_greatest) B.pre w (List.mem_cons_of_mem _ h)
  have hown : s.vm.findClass "TileBinsModel" = some m.cls := findClass_of_methodNamed B.named
  have hlocks := B.notSynchronized
  subst hsz
  have hA : ∀ q : Nat, s.heap.size ≤ q → ro_A s.heap.size q := fun q h => h
  have hS : va_S (ro_A s.heap.size) s.heap s.heap [] := va_S.rf
  have hl := lv_entry ([.int a1, .int a2]) (n := 2) (Nat.le_of_ble_eq_true rfl)
  rw [lg_entry_eq]
  generalize (lg_sl ([.int a1, .int a2]) ++ List.replicate (2 - (lg_sl ([.int a1, .int a2])).length) Slot.unset).toArray = ls at hl ⊢
  have hl : lv_has ls 2 [(0, .int a1), (1, .int a2)] := hl
  refine lv_iload_n hx hb dX1_greatest_0 rfl (lv_at hl 0 rfl) ?_
  refine lv_iload_n hx hb dX1_greatest_1 rfl (lv_at hl 1 rfl) ?_
  refine lv_icmp_le (tgt := 9) hx hb dX1_greatest_2 (by decide) (fun c_1 => ?_) (fun c_1 => ?_)
  · refine lv_iload_n hx hb dX1_greatest_9 rfl (lv_at hl 1 rfl) ?_
    exact W.iret (v := a2) hx hb hr (fun t ht hW => ⟨⟨_, (), rfl, (show a2 = md_great a1 a2 by unfold md_great; rw [if_pos c_1]), trivial⟩, hS.F ht⟩) hS.2.2 dX1_greatest_10
  · refine lv_iload_n hx hb dX1_greatest_5 rfl (lv_at hl 0 rfl) ?_
    refine lv_goto (tgt := 10) hx hb dX1_greatest_6 (by decide) ?_
    exact W.iret (v := a1) hx hb hr (fun t ht hW => ⟨⟨_, (), rfl, (show a1 = md_great a1 a2 by unfold md_great; rw [if_neg c_1]), trivial⟩, hS.F ht⟩) hS.2.2 dX1_greatest_10
def md_isEmpty (a1 a2 a3 a4 : Int32) : Int32 := (if a3 ≤ a1 then 1 else (if a2 < a4 then 0 else 1))
set_option maxHeartbeats 4000000 in
set_option maxRecDepth 100000 in
theorem mtX1_isEmpty (l : Launch) (dC : Nat → ClassId) (dI : Nat → Nat → Nat)  (sz : Nat) (a1 a2 a3 a4 : Int32) : Met l yX1_isEmpty wsX1_isEmpty ({ frames := 0, cells := 0, slots := 0, locals := 0 }) (va_Pc [.int a1, .int a2, .int a3, .int a4] (ro_P (dC, dI) vwCl [] [] sz)) (va_Qi (fun (r : Int32) (_ : Unit) => r = md_isEmpty a1 a2 a3 a4) (fun _ _ => True) (ro_A sz)) 0 0 (ro_A sz) := by
  refine Met.ofW (cc := cX1_isEmpty) (maxL := 4) (ret := (some .boolean)) (by decide) rfl ?_
  intro p e s m args below meth c s₁ B hml hv
  obtain ⟨rfl, hsz, hP, hK⟩ := hv
  have hx := B.exec
  have hb := B.bytes
  have hr := B.returns
  have hts : ∀ w ∈ gb, w.before _ s = true := fun w h => atoms_spec (ws := wsX1_isEmpty) B.pre w (List.mem_cons_of_mem _ h)
  have hown : s.vm.findClass "TileBinsModel" = some m.cls := findClass_of_methodNamed B.named
  have hlocks := B.notSynchronized
  subst hsz
  have hA : ∀ q : Nat, s.heap.size ≤ q → ro_A s.heap.size q := fun q h => h
  have hS : va_S (ro_A s.heap.size) s.heap s.heap [] := va_S.rf
  have hl := lv_entry ([.int a1, .int a2, .int a3, .int a4]) (n := 4) (Nat.le_of_ble_eq_true rfl)
  rw [lg_entry_eq]
  generalize (lg_sl ([.int a1, .int a2, .int a3, .int a4]) ++ List.replicate (4 - (lg_sl ([.int a1, .int a2, .int a3, .int a4])).length) Slot.unset).toArray = ls at hl ⊢
  have hl : lv_has ls 4 [(0, .int a1), (1, .int a2), (2, .int a3), (3, .int a4)] := hl
  refine lv_iload_n hx hb dX1_isEmpty_0 rfl (lv_at hl 0 rfl) ?_
  refine lv_iload_n hx hb dX1_isEmpty_1 rfl (lv_at hl 2 rfl) ?_
  refine lv_icmp_ge (tgt := 10) hx hb dX1_isEmpty_2 (by decide) (fun c_1 => ?_) (fun c_1 => ?_)
  · refine lv_iconst (v := 1) hx hb dX1_isEmpty_10 (by first | rfl | decide) ?_
    refine lv_goto (tgt := 15) hx hb dX1_isEmpty_11 (by decide) ?_
    exact W.zret (v := 1) hx hb hr (by first | rfl | (unfold md_in; (repeat' split) <;> rfl)) (fun t ht hW => ⟨⟨_, (), rfl, (show 1 = md_isEmpty a1 a2 a3 a4 by unfold md_isEmpty; rw [if_pos c_1]), trivial⟩, hS.F ht⟩) hS.2.2 dX1_isEmpty_15
  · refine lv_iload_n hx hb dX1_isEmpty_5 rfl (lv_at hl 1 rfl) ?_
    refine lv_iload_n hx hb dX1_isEmpty_6 rfl (lv_at hl 3 rfl) ?_
    refine lv_icmp_lt (tgt := 14) hx hb dX1_isEmpty_7 (by decide) (fun c_2 => ?_) (fun c_2 => ?_)
    · refine lv_iconst (v := 0) hx hb dX1_isEmpty_14 (by first | rfl | decide) ?_
      exact W.zret (v := 0) hx hb hr (by first | rfl | (unfold md_in; (repeat' split) <;> rfl)) (fun t ht hW => ⟨⟨_, (), rfl, (show 0 = md_isEmpty a1 a2 a3 a4 by unfold md_isEmpty; rw [if_neg c_1, if_pos c_2]), trivial⟩, hS.F ht⟩) hS.2.2 dX1_isEmpty_15
    · refine lv_iconst (v := 1) hx hb dX1_isEmpty_10 (by first | rfl | decide) ?_
      refine lv_goto (tgt := 15) hx hb dX1_isEmpty_11 (by decide) ?_
      exact W.zret (v := 1) hx hb hr (by first | rfl | (unfold md_in; (repeat' split) <;> rfl)) (fun t ht hW => ⟨⟨_, (), rfl, (show 1 = md_isEmpty a1 a2 a3 a4 by unfold md_isEmpty; rw [if_neg c_1, if_neg c_2]), trivial⟩, hS.F ht⟩) hS.2.2 dX1_isEmpty_15
def md_thrown (gt : Int32) : Int32 := gt
set_option maxHeartbeats 4000000 in
set_option maxRecDepth 100000 in
theorem mtX1_thrown (l : Launch) (dC : Nat → ClassId) (dI : Nat → Nat → Nat) (g0 r1 r2 r3 r4 r5 : Nat) (cB1 cB2 cB3 cB4 cB5 : ClassId) (gt gw gh gs ge gi gk go ga : Int32) (f1 f2 f3 f4 f5 : Nat → Int32) (sz : Nat) : Met l yX1_thrown wsX1_thrown ({ frames := 0, cells := 0, slots := 0, locals := 0 }) (va_Pc [.ref g0] (ro_P (dC, dI) vwCl [(g0, .inr (1, [.int gt, .int gw, .int gh, .int gs, .int ge, .int gi, .int gk, .ref r1, .ref r2, .ref r3, .ref r4, .ref r5, .int go, .int ga])), (r1, .inl (cB1, 4096, .inl f1)), (r2, .inl (cB2, 4096, .inl f2)), (r3, .inl (cB3, 4096, .inl f3)), (r4, .inl (cB4, 4096, .inl f4)), (r5, .inl (cB5, 4096, .inl f5))] [(cB1, .int), (cB2, .int), (cB3, .int), (cB4, .int), (cB5, .int)] sz)) (va_Qi (fun (r : Int32) (_ : Unit) => r = md_thrown gt) (fun _ _ => True) (ro_A sz)) 0 0 (ro_A sz) := by
  refine Met.ofW (cc := cX1_thrown) (maxL := 1) (ret := (some .int)) (by decide) rfl ?_
  intro p e s m args below meth c s₁ B hml hv
  obtain ⟨rfl, hsz, hP, hK⟩ := hv
  have hx := B.exec
  have hb := B.bytes
  have hr := B.returns
  have hts : ∀ w ∈ gb, w.before _ s = true := fun w h => atoms_spec (ws := wsX1_thrown) B.pre w (List.mem_cons_of_mem _ h)
  have hown : s.vm.findClass "TileBinsModel" = some m.cls := findClass_of_methodNamed B.named
  have hlocks := B.notSynchronized
  subst hsz
  have hA : ∀ q : Nat, s.heap.size ≤ q → ro_A s.heap.size q := fun q h => h
  have hS : va_S (ro_A s.heap.size) s.heap s.heap [] := va_S.rf
  have hl := lv_entry ([.ref g0]) (n := 1) (Nat.le_of_ble_eq_true rfl)
  rw [lg_entry_eq]
  generalize (lg_sl ([.ref g0]) ++ List.replicate (1 - (lg_sl ([.ref g0])).length) Slot.unset).toArray = ls at hl ⊢
  have hl : lv_has ls 1 [(0, .ref g0)] := hl
  refine lv_aload_n hx hb dX1_thrown_0 rfl (lv_at hl 0 rfl) ?_
  refine va_get (D := (dC, dI)) (ci := 1) (v := .int gt) (C := "TileBinsModel") (T := TX1) (N := 14) hx hb hts inX1 hown hK hP 0 rfl rfl 0 (by decide) (hts _ kw_327) (fun _ h9 => h9) rfl dX1_thrown_1 ?_
  exact W.iret (v := gt) hx hb hr (fun t ht hW => ⟨⟨_, (), rfl, rfl, trivial⟩, hS.F ht⟩) hS.2.2 dX1_thrown_4
def md_across (gw gs : Int32) : Int32 := ((gw + gs) - 1) / gs
set_option maxHeartbeats 4000000 in
set_option maxRecDepth 100000 in
theorem mtX1_across (l : Launch) (dC : Nat → ClassId) (dI : Nat → Nat → Nat) (g0 r1 r2 r3 r4 r5 : Nat) (cB1 cB2 cB3 cB4 cB5 : ClassId) (gt gw gh gs ge gi gk go ga : Int32) (f1 f2 f3 f4 f5 : Nat → Int32) (sz : Nat) (hs0 : ¬ gs = 0) : Met l yX1_across wsX1_across ({ frames := 0, cells := 0, slots := 0, locals := 0 }) (va_Pc [.ref g0] (ro_P (dC, dI) vwCl [(g0, .inr (1, [.int gt, .int gw, .int gh, .int gs, .int ge, .int gi, .int gk, .ref r1, .ref r2, .ref r3, .ref r4, .ref r5, .int go, .int ga])), (r1, .inl (cB1, 4096, .inl f1)), (r2, .inl (cB2, 4096, .inl f2)), (r3, .inl (cB3, 4096, .inl f3)), (r4, .inl (cB4, 4096, .inl f4)), (r5, .inl (cB5, 4096, .inl f5))] [(cB1, .int), (cB2, .int), (cB3, .int), (cB4, .int), (cB5, .int)] sz)) (va_Qi (fun (r : Int32) (_ : Unit) => r = md_across gw gs) (fun _ _ => True) (ro_A sz)) 0 0 (ro_A sz) := by
  refine Met.ofW (cc := cX1_across) (maxL := 1) (ret := (some .int)) (by decide) rfl ?_
  intro p e s m args below meth c s₁ B hml hv
  obtain ⟨rfl, hsz, hP, hK⟩ := hv
  have hx := B.exec
  have hb := B.bytes
  have hr := B.returns
  have hts : ∀ w ∈ gb, w.before _ s = true := fun w h => atoms_spec (ws := wsX1_across) B.pre w (List.mem_cons_of_mem _ h)
  have hown : s.vm.findClass "TileBinsModel" = some m.cls := findClass_of_methodNamed B.named
  have hlocks := B.notSynchronized
  subst hsz
  have hA : ∀ q : Nat, s.heap.size ≤ q → ro_A s.heap.size q := fun q h => h
  have hS : va_S (ro_A s.heap.size) s.heap s.heap [] := va_S.rf
  have hl := lv_entry ([.ref g0]) (n := 1) (Nat.le_of_ble_eq_true rfl)
  rw [lg_entry_eq]
  generalize (lg_sl ([.ref g0]) ++ List.replicate (1 - (lg_sl ([.ref g0])).length) Slot.unset).toArray = ls at hl ⊢
  have hl : lv_has ls 1 [(0, .ref g0)] := hl
  refine lv_aload_n hx hb dX1_across_0 rfl (lv_at hl 0 rfl) ?_
  refine va_get (D := (dC, dI)) (ci := 1) (v := .int gw) (C := "TileBinsModel") (T := TX1) (N := 14) hx hb hts inX1 hown hK hP 0 rfl rfl 1 (by decide) (hts _ kw_328) (fun _ h9 => h9) rfl dX1_across_1 ?_
  refine lv_aload_n hx hb dX1_across_4 rfl (lv_at hl 0 rfl) ?_
  refine va_get (D := (dC, dI)) (ci := 1) (v := .int gs) (C := "TileBinsModel") (T := TX1) (N := 14) hx hb hts inX1 hown hK hP 0 rfl rfl 3 (by decide) (hts _ kw_330) (fun _ h9 => h9) rfl dX1_across_5 ?_
  refine lv_iadd hx hb dX1_across_8 ?_
  refine lv_iconst (v := 1) hx hb dX1_across_9 (by first | rfl | decide) ?_
  refine lv_isub hx hb dX1_across_10 ?_
  refine lv_aload_n hx hb dX1_across_11 rfl (lv_at hl 0 rfl) ?_
  refine va_get (D := (dC, dI)) (ci := 1) (v := .int gs) (C := "TileBinsModel") (T := TX1) (N := 14) hx hb hts inX1 hown hK hP 0 rfl rfl 3 (by decide) (hts _ kw_330) (fun _ h9 => h9) rfl dX1_across_12 ?_
  refine lv_idiv hx hb dX1_across_15 hs0 ?_
  exact W.iret (v := ((gw + gs) - 1) / gs) hx hb hr (fun t ht hW => ⟨⟨_, (), rfl, rfl, trivial⟩, hS.F ht⟩) hS.2.2 dX1_across_16
def md_tiles (gw gh gs : Int32) : Int32 := (md_across gw gs) * (((gh + gs) - 1) / gs)
set_option maxHeartbeats 4000000 in
set_option maxRecDepth 100000 in
theorem mtX1_tiles (l : Launch) (dC : Nat → ClassId) (dI : Nat → Nat → Nat) (g0 r1 r2 r3 r4 r5 : Nat) (cB1 cB2 cB3 cB4 cB5 : ClassId) (gt gw gh gs ge gi gk go ga : Int32) (f1 f2 f3 f4 f5 : Nat → Int32) (sz : Nat) (hs0 : ¬ gs = 0) : Met l yX1_tiles wsX1_tiles ({ frames := 1, cells := 0, slots := 0, locals := 20 }) (va_Pc [.ref g0] (ro_P (dC, dI) vwCl [(g0, .inr (1, [.int gt, .int gw, .int gh, .int gs, .int ge, .int gi, .int gk, .ref r1, .ref r2, .ref r3, .ref r4, .ref r5, .int go, .int ga])), (r1, .inl (cB1, 4096, .inl f1)), (r2, .inl (cB2, 4096, .inl f2)), (r3, .inl (cB3, 4096, .inl f3)), (r4, .inl (cB4, 4096, .inl f4)), (r5, .inl (cB5, 4096, .inl f5))] [(cB1, .int), (cB2, .int), (cB3, .int), (cB4, .int), (cB5, .int)] sz)) (va_Qi (fun (r : Int32) (_ : Unit) => r = md_tiles gw gh gs) (fun _ _ => True) (ro_A sz)) 0 0 (ro_A sz) := by
  refine Met.ofW (cc := cX1_tiles) (maxL := 1) (ret := (some .int)) (by decide) rfl ?_
  intro p e s m args below meth c s₁ B hml hv
  obtain ⟨rfl, hsz, hP, hK⟩ := hv
  have hx := B.exec
  have hb := B.bytes
  have hr := B.returns
  have hts : ∀ w ∈ gb, w.before _ s = true := fun w h => atoms_spec (ws := wsX1_tiles) B.pre w (List.mem_cons_of_mem _ h)
  have hown : s.vm.findClass "TileBinsModel" = some m.cls := findClass_of_methodNamed B.named
  have hlocks := B.notSynchronized
  subst hsz
  have hA : ∀ q : Nat, s.heap.size ≤ q → ro_A s.heap.size q := fun q h => h
  have hS : va_S (ro_A s.heap.size) s.heap s.heap [] := va_S.rf
  have hl := lv_entry ([.ref g0]) (n := 1) (Nat.le_of_ble_eq_true rfl)
  rw [lg_entry_eq]
  generalize (lg_sl ([.ref g0]) ++ List.replicate (1 - (lg_sl ([.ref g0])).length) Slot.unset).toArray = ls at hl ⊢
  have hl : lv_has ls 1 [(0, .ref g0)] := hl
  refine lv_aload_n hx hb dX1_tiles_0 rfl (lv_at hl 0 rfl) ?_
  refine ro_calli (va_runV (As := []) (rest := []) ⟨hx, hb, hml, hown, hts⟩ (mtX1_across l dC dI g0 r1 r2 r3 r4 r5 cB1 cB2 cB3 cB4 cB5 gt gw gh gs ge gi gk go ga f1 f2 f3 f4 f5 s.heap.size  hs0) (cwV 0 hts (gb_v kw_389 kw_391 kw_15 kw_23 kw_392) rfl rfl rfl (by decide +kernel) ⟨Nat.le_of_ble_eq_true rfl, Nat.le_of_ble_eq_true rfl⟩) ⟨ro_P.blind, va_recv hK hP (ci := 1) (q0 := 0) rfl rfl, ro_P.at hP hK⟩ rfl rfl hl.1 rfl (lv_room (Nat.le_of_ble_eq_true rfl)) dX1_tiles_1 ⟨Nat.le_of_ble_eq_true rfl, Nat.le_of_ble_eq_true rfl⟩) hP hS hA (fun H locs hP hS hz hk => ?_)
  refine lv_aload_n hx hb dX1_tiles_4 rfl (lv_at hl 0 rfl) ?_
  refine va_get (D := (dC, dI)) (ci := 1) (v := .int gh) (C := "TileBinsModel") (T := TX1) (N := 14) hx hb hts inX1 hown hK hP 0 rfl rfl 2 (by decide) (hts _ kw_329) (fun _ h9 => h9) rfl dX1_tiles_5 ?_
  refine lv_aload_n hx hb dX1_tiles_8 rfl (lv_at hl 0 rfl) ?_
  refine va_get (D := (dC, dI)) (ci := 1) (v := .int gs) (C := "TileBinsModel") (T := TX1) (N := 14) hx hb hts inX1 hown hK hP 0 rfl rfl 3 (by decide) (hts _ kw_330) (fun _ h9 => h9) rfl dX1_tiles_9 ?_
  refine lv_iadd hx hb dX1_tiles_12 ?_
  refine lv_iconst (v := 1) hx hb dX1_tiles_13 (by first | rfl | decide) ?_
  refine lv_isub hx hb dX1_tiles_14 ?_
  refine lv_aload_n hx hb dX1_tiles_15 rfl (lv_at hl 0 rfl) ?_
  refine va_get (D := (dC, dI)) (ci := 1) (v := .int gs) (C := "TileBinsModel") (T := TX1) (N := 14) hx hb hts inX1 hown hK hP 0 rfl rfl 3 (by decide) (hts _ kw_330) (fun _ h9 => h9) rfl dX1_tiles_16 ?_
  refine lv_idiv hx hb dX1_tiles_19 hs0 ?_
  refine lv_imul hx hb dX1_tiles_20 ?_
  exact W.iret (v := (md_across gw gs) * (((gh + gs) - 1) / gs)) hx hb hr (fun t ht hW => ⟨⟨_, (), rfl, rfl, trivial⟩, hS.F ht⟩) hS.2.2 dX1_tiles_21
def md_isTile (gw gh gs a1 : Int32) : Int32 := md_in a1 0 ((md_tiles gw gh gs) - 1)
set_option maxHeartbeats 4000000 in
set_option maxRecDepth 100000 in
theorem mtX1_isTile (l : Launch) (dC : Nat → ClassId) (dI : Nat → Nat → Nat) (g0 r1 r2 r3 r4 r5 : Nat) (cB1 cB2 cB3 cB4 cB5 : ClassId) (gt gw gh gs ge gi gk go ga : Int32) (f1 f2 f3 f4 f5 : Nat → Int32) (sz : Nat) (a1 : Int32) (hs0 : ¬ gs = 0) : Met l yX1_isTile wsX1_isTile ({ frames := 2, cells := 0, slots := 0, locals := 40 }) (va_Pc [.ref g0, .int a1] (ro_P (dC, dI) vwCl [(g0, .inr (1, [.int gt, .int gw, .int gh, .int gs, .int ge, .int gi, .int gk, .ref r1, .ref r2, .ref r3, .ref r4, .ref r5, .int go, .int ga])), (r1, .inl (cB1, 4096, .inl f1)), (r2, .inl (cB2, 4096, .inl f2)), (r3, .inl (cB3, 4096, .inl f3)), (r4, .inl (cB4, 4096, .inl f4)), (r5, .inl (cB5, 4096, .inl f5))] [(cB1, .int), (cB2, .int), (cB3, .int), (cB4, .int), (cB5, .int)] sz)) (va_Qi (fun (r : Int32) (_ : Unit) => r = md_isTile gw gh gs a1) (fun _ _ => True) (ro_A sz)) 0 0 (ro_A sz) := by
  refine Met.ofW (cc := cX1_isTile) (maxL := 2) (ret := (some .boolean)) (by decide) rfl ?_
  intro p e s m args below meth c s₁ B hml hv
  obtain ⟨rfl, hsz, hP, hK⟩ := hv
  have hx := B.exec
  have hb := B.bytes
  have hr := B.returns
  have hts : ∀ w ∈ gb, w.before _ s = true := fun w h => atoms_spec (ws := wsX1_isTile) B.pre w (List.mem_cons_of_mem _ h)
  have hown : s.vm.findClass "TileBinsModel" = some m.cls := findClass_of_methodNamed B.named
  have hlocks := B.notSynchronized
  subst hsz
  have hA : ∀ q : Nat, s.heap.size ≤ q → ro_A s.heap.size q := fun q h => h
  have hS : va_S (ro_A s.heap.size) s.heap s.heap [] := va_S.rf
  have hl := lv_entry ([.ref g0, .int a1]) (n := 2) (Nat.le_of_ble_eq_true rfl)
  rw [lg_entry_eq]
  generalize (lg_sl ([.ref g0, .int a1]) ++ List.replicate (2 - (lg_sl ([.ref g0, .int a1])).length) Slot.unset).toArray = ls at hl ⊢
  have hl : lv_has ls 2 [(0, .ref g0), (1, .int a1)] := hl
  refine lv_iload_n hx hb dX1_isTile_0 rfl (lv_at hl 1 rfl) ?_
  refine lv_iconst (v := 0) hx hb dX1_isTile_1 (by first | rfl | decide) ?_
  refine lv_aload_n hx hb dX1_isTile_2 rfl (lv_at hl 0 rfl) ?_
  refine ro_calli (va_runV (As := []) (rest := [.int 0, .int a1]) ⟨hx, hb, hml, hown, hts⟩ (mtX1_tiles l dC dI g0 r1 r2 r3 r4 r5 cB1 cB2 cB3 cB4 cB5 gt gw gh gs ge gi gk go ga f1 f2 f3 f4 f5 s.heap.size  hs0) (cwV 0 hts (gb_v kw_385 kw_387 kw_14 kw_23 kw_388) rfl rfl rfl (by decide +kernel) ⟨Nat.le_of_ble_eq_true rfl, Nat.le_of_ble_eq_true rfl⟩) ⟨ro_P.blind, va_recv hK hP (ci := 1) (q0 := 0) rfl rfl, ro_P.at hP hK⟩ rfl rfl hl.1 rfl (lv_room (Nat.le_of_ble_eq_true rfl)) dX1_isTile_3 ⟨Nat.le_of_ble_eq_true rfl, Nat.le_of_ble_eq_true rfl⟩) hP hS hA (fun H locs hP hS hz hk => ?_)
  refine lv_iconst (v := 1) hx hb dX1_isTile_6 (by first | rfl | decide) ?_
  refine lv_isub hx hb dX1_isTile_7 ?_
  refine ro_calli (va_runS (As := [.int a1, .int 0, .int ((md_tiles gw gh gs) - 1)]) (rest := []) ⟨hx, hb, hml, hown, hts⟩ (mtX1_in l dC dI  H.size a1 0 ((md_tiles gw gh gs) - 1)) (va_cwS 3 hts (gb_s kw_378 kw_379 kw_23 kw_380) rfl rfl rfl (by decide +kernel) ⟨Nat.le_of_ble_eq_true rfl, Nat.le_of_ble_eq_true rfl⟩) ⟨ro_P.blind, ro_P.at (hP.sub [] rfl) (hK.sub [] rfl)⟩ rfl rfl hl.1 rfl (lv_room (Nat.le_of_ble_eq_true rfl)) dX1_isTile_8 ⟨Nat.le_of_ble_eq_true rfl, Nat.le_of_ble_eq_true rfl⟩) hP hS hA (fun H locs hP hS hz hk => ?_)
  exact W.zret (v := md_in a1 0 ((md_tiles gw gh gs) - 1)) hx hb hr (by first | rfl | (unfold md_in; (repeat' split) <;> rfl)) (fun t ht hW => ⟨⟨_, (), rfl, rfl, trivial⟩, hS.F ht⟩) hS.2.2 dX1_isTile_11
def md_edge (gw gh gs a1 a2 : Int32) : Int32 := (if a2 = 0 then (a1 - a1 / (md_across gw gs) * (md_across gw gs)) * gs else (if a2 = 1 then (a1 / (md_across gw gs)) * gs else (if a2 = 2 then md_least (((a1 - a1 / (md_across gw gs) * (md_across gw gs)) * gs) + gs) gw else md_least (((a1 / (md_across gw gs)) * gs) + gs) gh)))
set_option maxHeartbeats 4000000 in
set_option maxRecDepth 100000 in
theorem mtX1_edge (l : Launch) (dC : Nat → ClassId) (dI : Nat → Nat → Nat) (g0 r1 r2 r3 r4 r5 : Nat) (cB1 cB2 cB3 cB4 cB5 : ClassId) (gt gw gh gs ge gi gk go ga : Int32) (f1 f2 f3 f4 f5 : Nat → Int32) (sz : Nat) (a1 a2 : Int32) (hs0 : ¬ gs = 0) (hac : ¬ md_across gw gs = 0) : Met l yX1_edge wsX1_edge ({ frames := 1, cells := 0, slots := 0, locals := 21 }) (va_Pc [.ref g0, .int a1, .int a2] (ro_P (dC, dI) vwCl [(g0, .inr (1, [.int gt, .int gw, .int gh, .int gs, .int ge, .int gi, .int gk, .ref r1, .ref r2, .ref r3, .ref r4, .ref r5, .int go, .int ga])), (r1, .inl (cB1, 4096, .inl f1)), (r2, .inl (cB2, 4096, .inl f2)), (r3, .inl (cB3, 4096, .inl f3)), (r4, .inl (cB4, 4096, .inl f4)), (r5, .inl (cB5, 4096, .inl f5))] [(cB1, .int), (cB2, .int), (cB3, .int), (cB4, .int), (cB5, .int)] sz)) (va_Qi (fun (r : Int32) (_ : Unit) => r = md_edge gw gh gs a1 a2) (fun _ _ => True) (ro_A sz)) 0 0 (ro_A sz) := by
  refine Met.ofW (cc := cX1_edge) (maxL := 5) (ret := (some .int)) (by decide) rfl ?_
  intro p e s m args below meth c s₁ B hml hv
  obtain ⟨rfl, hsz, hP, hK⟩ := hv
  have hx := B.exec
  have hb := B.bytes
  have hr := B.returns
  have hts : ∀ w ∈ gb, w.before _ s = true := fun w h => atoms_spec (ws := wsX1_edge) B.pre w (List.mem_cons_of_mem _ h)
  have hown : s.vm.findClass "TileBinsModel" = some m.cls := findClass_of_methodNamed B.named
  have hlocks := B.notSynchronized
  subst hsz
  have hA : ∀ q : Nat, s.heap.size ≤ q → ro_A s.heap.size q := fun q h => h
  have hS : va_S (ro_A s.heap.size) s.heap s.heap [] := va_S.rf
  have hl := lv_entry ([.ref g0, .int a1, .int a2]) (n := 5) (Nat.le_of_ble_eq_true rfl)
  rw [lg_entry_eq]
  generalize (lg_sl ([.ref g0, .int a1, .int a2]) ++ List.replicate (5 - (lg_sl ([.ref g0, .int a1, .int a2])).length) Slot.unset).toArray = ls at hl ⊢
  have hl : lv_has ls 5 [(0, .ref g0), (1, .int a1), (2, .int a2)] := hl
  refine lv_iload_n hx hb dX1_edge_0 rfl (lv_at hl 1 rfl) ?_
  refine lv_aload_n hx hb dX1_edge_1 rfl (lv_at hl 0 rfl) ?_
  refine ro_calli (va_runV (As := []) (rest := [.int a1]) ⟨hx, hb, hml, hown, hts⟩ (mtX1_across l dC dI g0 r1 r2 r3 r4 r5 cB1 cB2 cB3 cB4 cB5 gt gw gh gs ge gi gk go ga f1 f2 f3 f4 f5 s.heap.size  hs0) (cwV 0 hts (gb_v kw_389 kw_391 kw_15 kw_23 kw_392) rfl rfl rfl (by decide +kernel) ⟨Nat.le_of_ble_eq_true rfl, Nat.le_of_ble_eq_true rfl⟩) ⟨ro_P.blind, va_recv hK hP (ci := 1) (q0 := 0) rfl rfl, ro_P.at hP hK⟩ rfl rfl hl.1 rfl (lv_room (Nat.le_of_ble_eq_true rfl)) dX1_edge_2 ⟨Nat.le_of_ble_eq_true rfl, Nat.le_of_ble_eq_true rfl⟩) hP hS hA (fun H locs hP hS hz hk => ?_)
  refine lv_irem hx hb dX1_edge_5 hac ?_
  refine lv_aload_n hx hb dX1_edge_6 rfl (lv_at hl 0 rfl) ?_
  refine va_get (D := (dC, dI)) (ci := 1) (v := .int gs) (C := "TileBinsModel") (T := TX1) (N := 14) hx hb hts inX1 hown hK hP 0 rfl rfl 3 (by decide) (hts _ kw_330) (fun _ h9 => h9) rfl dX1_edge_7 ?_
  refine lv_imul hx hb dX1_edge_10 ?_
  refine lv_istore_n (lv' := [(3, .int ((a1 - a1 / (md_across gw gs) * (md_across gw gs)) * gs)), (0, .ref g0), (1, .int a1), (2, .int a2)]) hx hb dX1_edge_11 rfl hl (by decide) rfl (fun ls hl => ?_)
  refine lv_iload_n hx hb dX1_edge_12 rfl (lv_at hl 2 rfl) ?_
  refine lv_aload_n hx hb dX1_edge_13 rfl (lv_at hl 1 rfl) ?_
  refine ro_calli (va_runV (As := []) (rest := [.int a1]) ⟨hx, hb, hml, hown, hts⟩ (mtX1_across l dC dI g0 r1 r2 r3 r4 r5 cB1 cB2 cB3 cB4 cB5 gt gw gh gs ge gi gk go ga f1 f2 f3 f4 f5 H.size  hs0) (cwV 0 hts (gb_v kw_389 kw_391 kw_15 kw_23 kw_392) rfl rfl rfl (by decide +kernel) ⟨Nat.le_of_ble_eq_true rfl, Nat.le_of_ble_eq_true rfl⟩) ⟨ro_P.blind, va_recv hK hP (ci := 1) (q0 := 0) rfl rfl, ro_P.at hP hK⟩ rfl rfl hl.1 rfl (lv_room (Nat.le_of_ble_eq_true rfl)) dX1_edge_14 ⟨Nat.le_of_ble_eq_true rfl, Nat.le_of_ble_eq_true rfl⟩) hP hS hA (fun H locs hP hS hz hk => ?_)
  refine lv_idiv hx hb dX1_edge_17 hac ?_
  refine lv_aload_n hx hb dX1_edge_18 rfl (lv_at hl 1 rfl) ?_
  refine va_get (D := (dC, dI)) (ci := 1) (v := .int gs) (C := "TileBinsModel") (T := TX1) (N := 14) hx hb hts inX1 hown hK hP 0 rfl rfl 3 (by decide) (hts _ kw_330) (fun _ h9 => h9) rfl dX1_edge_19 ?_
  refine lv_imul hx hb dX1_edge_22 ?_
  refine lv_istore (lv' := [(4, .int ((a1 / (md_across gw gs)) * gs)), (3, .int ((a1 - a1 / (md_across gw gs) * (md_across gw gs)) * gs)), (0, .ref g0), (1, .int a1), (2, .int a2)]) hx hb dX1_edge_23 hl (by decide) rfl (fun ls hl => ?_)
  refine lv_iload_n hx hb dX1_edge_25 rfl (lv_at hl 4 rfl) ?_
  rcases Classical.em (a2 = 0) with c_1 | c_1
  · refine lv_tableIn (off := 26) (tgt := 52) hx hb dX1_edge_26 (by rw [c_1]; decide) (by rw [c_1]; decide) (by rw [c_1]; rfl) (by decide) ?_
    refine lv_iload_n hx hb dX1_edge_52 rfl (lv_at hl 1 rfl) ?_
    exact W.iret (v := (a1 - a1 / (md_across gw gs) * (md_across gw gs)) * gs) hx hb hr (fun t ht hW => ⟨⟨_, (), rfl, (show (a1 - a1 / (md_across gw gs) * (md_across gw gs)) * gs = md_edge gw gh gs a1 a2 by unfold md_edge; rw [if_pos c_1]), trivial⟩, hS.F ht⟩) hS.2.2 dX1_edge_53
  · rcases Classical.em (a2 = 1) with c_2 | c_2
    · refine lv_tableIn (off := 28) (tgt := 54) hx hb dX1_edge_26 (by rw [c_2]; decide) (by rw [c_2]; decide) (by rw [c_2]; rfl) (by decide) ?_
      refine lv_iload hx hb dX1_edge_54 (lv_at hl 0 rfl) ?_
      exact W.iret (v := (a1 / (md_across gw gs)) * gs) hx hb hr (fun t ht hW => ⟨⟨_, (), rfl, (show (a1 / (md_across gw gs)) * gs = md_edge gw gh gs a1 a2 by unfold md_edge; rw [if_neg c_1, if_pos c_2]), trivial⟩, hS.F ht⟩) hS.2.2 dX1_edge_56
    · rcases Classical.em (a2 = 2) with c_3 | c_3
      · refine lv_tableIn (off := 31) (tgt := 57) hx hb dX1_edge_26 (by rw [c_3]; decide) (by rw [c_3]; decide) (by rw [c_3]; rfl) (by decide) ?_
        refine lv_iload_n hx hb dX1_edge_57 rfl (lv_at hl 1 rfl) ?_
        refine lv_aload_n hx hb dX1_edge_58 rfl (lv_at hl 2 rfl) ?_
        refine va_get (D := (dC, dI)) (ci := 1) (v := .int gs) (C := "TileBinsModel") (T := TX1) (N := 14) hx hb hts inX1 hown hK hP 0 rfl rfl 3 (by decide) (hts _ kw_330) (fun _ h9 => h9) rfl dX1_edge_59 ?_
        refine lv_iadd hx hb dX1_edge_62 ?_
        refine lv_aload_n hx hb dX1_edge_63 rfl (lv_at hl 2 rfl) ?_
        refine va_get (D := (dC, dI)) (ci := 1) (v := .int gw) (C := "TileBinsModel") (T := TX1) (N := 14) hx hb hts inX1 hown hK hP 0 rfl rfl 1 (by decide) (hts _ kw_328) (fun _ h9 => h9) rfl dX1_edge_64 ?_
        refine ro_calli (va_runS (As := [.int (((a1 - a1 / (md_across gw gs) * (md_across gw gs)) * gs) + gs), .int gw]) (rest := []) ⟨hx, hb, hml, hown, hts⟩ (mtX1_least l dC dI  H.size (((a1 - a1 / (md_across gw gs) * (md_across gw gs)) * gs) + gs) gw) (va_cwS 2 hts (gb_s kw_400 kw_401 kw_23 kw_402) rfl rfl rfl (by decide +kernel) ⟨Nat.le_of_ble_eq_true rfl, Nat.le_of_ble_eq_true rfl⟩) ⟨ro_P.blind, ro_P.at (hP.sub [] rfl) (hK.sub [] rfl)⟩ rfl rfl hl.1 rfl (lv_room (Nat.le_of_ble_eq_true rfl)) dX1_edge_67 ⟨Nat.le_of_ble_eq_true rfl, Nat.le_of_ble_eq_true rfl⟩) hP hS hA (fun H locs hP hS hz hk => ?_)
        exact W.iret (v := md_least (((a1 - a1 / (md_across gw gs) * (md_across gw gs)) * gs) + gs) gw) hx hb hr (fun t ht hW => ⟨⟨_, (), rfl, (show md_least (((a1 - a1 / (md_across gw gs) * (md_across gw gs)) * gs) + gs) gw = md_edge gw gh gs a1 a2 by unfold md_edge; rw [if_neg c_1, if_neg c_2, if_pos c_3]), trivial⟩, hS.F ht⟩) hS.2.2 dX1_edge_70
      · refine lv_tableOut (tgt := 71) hx hb dX1_edge_26 (sw_out3 c_1 c_2 c_3) (by decide) ?_
        refine lv_iload hx hb dX1_edge_71 (lv_at hl 0 rfl) ?_
        refine lv_aload_n hx hb dX1_edge_73 rfl (lv_at hl 2 rfl) ?_
        refine va_get (D := (dC, dI)) (ci := 1) (v := .int gs) (C := "TileBinsModel") (T := TX1) (N := 14) hx hb hts inX1 hown hK hP 0 rfl rfl 3 (by decide) (hts _ kw_330) (fun _ h9 => h9) rfl dX1_edge_74 ?_
        refine lv_iadd hx hb dX1_edge_77 ?_
        refine lv_aload_n hx hb dX1_edge_78 rfl (lv_at hl 2 rfl) ?_
        refine va_get (D := (dC, dI)) (ci := 1) (v := .int gh) (C := "TileBinsModel") (T := TX1) (N := 14) hx hb hts inX1 hown hK hP 0 rfl rfl 2 (by decide) (hts _ kw_329) (fun _ h9 => h9) rfl dX1_edge_79 ?_
        refine ro_calli (va_runS (As := [.int (((a1 / (md_across gw gs)) * gs) + gs), .int gh]) (rest := []) ⟨hx, hb, hml, hown, hts⟩ (mtX1_least l dC dI  H.size (((a1 / (md_across gw gs)) * gs) + gs) gh) (va_cwS 2 hts (gb_s kw_400 kw_401 kw_23 kw_402) rfl rfl rfl (by decide +kernel) ⟨Nat.le_of_ble_eq_true rfl, Nat.le_of_ble_eq_true rfl⟩) ⟨ro_P.blind, ro_P.at (hP.sub [] rfl) (hK.sub [] rfl)⟩ rfl rfl hl.1 rfl (lv_room (Nat.le_of_ble_eq_true rfl)) dX1_edge_82 ⟨Nat.le_of_ble_eq_true rfl, Nat.le_of_ble_eq_true rfl⟩) hP hS hA (fun H locs hP hS hz hk => ?_)
        exact W.iret (v := md_least (((a1 / (md_across gw gs)) * gs) + gs) gh) hx hb hr (fun t ht hW => ⟨⟨_, (), rfl, (show md_least (((a1 / (md_across gw gs)) * gs) + gs) gh = md_edge gw gh gs a1 a2 by unfold md_edge; rw [if_neg c_1, if_neg c_2, if_neg c_3]), trivial⟩, hS.F ht⟩) hS.2.2 dX1_edge_85
def md_touch (gw gh gs : Int32) (f1 f2 f3 f4 : Nat → Int32) (a1 a2 : Int32) : Int32 := (if (md_isEmpty (md_great (f1 a1.toNatClampNeg) (md_edge gw gh gs a2 0)) (md_great (f2 a1.toNatClampNeg) (md_edge gw gh gs a2 1)) (md_least (f3 a1.toNatClampNeg) (md_edge gw gh gs a2 2)) (md_least (f4 a1.toNatClampNeg) (md_edge gw gh gs a2 3))) = 0 then 1 else 0)
set_option maxHeartbeats 4000000 in
set_option maxRecDepth 100000 in
theorem mtX1_touches (l : Launch) (dC : Nat → ClassId) (dI : Nat → Nat → Nat) (g0 r1 r2 r3 r4 r5 : Nat) (cB1 cB2 cB3 cB4 cB5 : ClassId) (gt gw gh gs ge gi gk go ga : Int32) (f1 f2 f3 f4 f5 : Nat → Int32) (sz : Nat) (a1 a2 : Int32) (hs0 : ¬ gs = 0) (hac : ¬ md_across gw gs = 0) (hi : vp_in a1 4096) : Met l yX1_touches wsX1_touches ({ frames := 2, cells := 0, slots := 0, locals := 45 }) (va_Pc [.ref g0, .int a1, .int a2] (ro_P (dC, dI) vwCl [(g0, .inr (1, [.int gt, .int gw, .int gh, .int gs, .int ge, .int gi, .int gk, .ref r1, .ref r2, .ref r3, .ref r4, .ref r5, .int go, .int ga])), (r1, .inl (cB1, 4096, .inl f1)), (r2, .inl (cB2, 4096, .inl f2)), (r3, .inl (cB3, 4096, .inl f3)), (r4, .inl (cB4, 4096, .inl f4)), (r5, .inl (cB5, 4096, .inl f5))] [(cB1, .int), (cB2, .int), (cB3, .int), (cB4, .int), (cB5, .int)] sz)) (va_Qi (fun (r : Int32) (_ : Unit) => r = md_touch gw gh gs f1 f2 f3 f4 a1 a2) (fun _ _ => True) (ro_A sz)) 0 0 (ro_A sz) := by
  refine Met.ofW (cc := cX1_touches) (maxL := 3) (ret := (some .boolean)) (by decide) rfl ?_
  intro p e s m args below meth c s₁ B hml hv
  obtain ⟨rfl, hsz, hP, hK⟩ := hv
  have hx := B.exec
  have hb := B.bytes
  have hr := B.returns
  have hts : ∀ w ∈ gb, w.before _ s = true := fun w h => atoms_spec (ws := wsX1_touches) B.pre w (List.mem_cons_of_mem _ h)
  have hown : s.vm.findClass "TileBinsModel" = some m.cls := findClass_of_methodNamed B.named
  have hlocks := B.notSynchronized
  subst hsz
  have hA : ∀ q : Nat, s.heap.size ≤ q → ro_A s.heap.size q := fun q h => h
  have hS : va_S (ro_A s.heap.size) s.heap s.heap [] := va_S.rf
  have hl := lv_entry ([.ref g0, .int a1, .int a2]) (n := 3) (Nat.le_of_ble_eq_true rfl)
  rw [lg_entry_eq]
  generalize (lg_sl ([.ref g0, .int a1, .int a2]) ++ List.replicate (3 - (lg_sl ([.ref g0, .int a1, .int a2])).length) Slot.unset).toArray = ls at hl ⊢
  have hl : lv_has ls 3 [(0, .ref g0), (1, .int a1), (2, .int a2)] := hl
  refine lv_aload_n hx hb dX1_touches_0 rfl (lv_at hl 0 rfl) ?_
  refine va_get (D := (dC, dI)) (ci := 1) (v := .ref r1) (C := "TileBinsModel") (T := TX1) (N := 14) hx hb hts inX1 hown hK hP 0 rfl rfl 7 (by decide) (hts _ kw_334) (fun _ h9 => h9) rfl dX1_touches_1 ?_
  refine lv_iload_n hx hb dX1_touches_4 rfl (lv_at hl 1 rfl) ?_
  refine va_iald hx hb hK hP 1 0 rfl rfl hi dX1_touches_5 ?_
  refine lv_aload_n hx hb dX1_touches_6 rfl (lv_at hl 0 rfl) ?_
  refine lv_iload_n hx hb dX1_touches_7 rfl (lv_at hl 2 rfl) ?_
  refine lv_iconst (v := 0) hx hb dX1_touches_8 (by first | rfl | decide) ?_
  refine ro_calli (va_runV (As := [.int a2, .int 0]) (rest := [.int (f1 a1.toNatClampNeg)]) ⟨hx, hb, hml, hown, hts⟩ (mtX1_edge l dC dI g0 r1 r2 r3 r4 r5 cB1 cB2 cB3 cB4 cB5 gt gw gh gs ge gi gk go ga f1 f2 f3 f4 f5 s.heap.size a2 0 hs0 hac) (cwV 2 hts (gb_v kw_414 kw_416 kw_18 kw_23 kw_417) rfl rfl rfl (by decide +kernel) ⟨Nat.le_of_ble_eq_true rfl, Nat.le_of_ble_eq_true rfl⟩) ⟨ro_P.blind, va_recv hK hP (ci := 1) (q0 := 0) rfl rfl, ro_P.at hP hK⟩ rfl rfl hl.1 rfl (lv_room (Nat.le_of_ble_eq_true rfl)) dX1_touches_9 ⟨Nat.le_of_ble_eq_true rfl, Nat.le_of_ble_eq_true rfl⟩) hP hS hA (fun H locs hP hS hz hk => ?_)
  refine ro_calli (va_runS (As := [.int (f1 a1.toNatClampNeg), .int (md_edge gw gh gs a2 0)]) (rest := []) ⟨hx, hb, hml, hown, hts⟩ (mtX1_greatest l dC dI  H.size (f1 a1.toNatClampNeg) (md_edge gw gh gs a2 0)) (va_cwS 2 hts (gb_s kw_397 kw_398 kw_23 kw_399) rfl rfl rfl (by decide +kernel) ⟨Nat.le_of_ble_eq_true rfl, Nat.le_of_ble_eq_true rfl⟩) ⟨ro_P.blind, ro_P.at (hP.sub [] rfl) (hK.sub [] rfl)⟩ rfl rfl hl.1 rfl (lv_room (Nat.le_of_ble_eq_true rfl)) dX1_touches_12 ⟨Nat.le_of_ble_eq_true rfl, Nat.le_of_ble_eq_true rfl⟩) hP hS hA (fun H locs hP hS hz hk => ?_)
  refine lv_aload_n hx hb dX1_touches_15 rfl (lv_at hl 0 rfl) ?_
  refine va_get (D := (dC, dI)) (ci := 1) (v := .ref r2) (C := "TileBinsModel") (T := TX1) (N := 14) hx hb hts inX1 hown hK hP 0 rfl rfl 8 (by decide) (hts _ kw_335) (fun _ h9 => h9) rfl dX1_touches_16 ?_
  refine lv_iload_n hx hb dX1_touches_19 rfl (lv_at hl 1 rfl) ?_
  refine va_iald hx hb hK hP 2 1 rfl rfl hi dX1_touches_20 ?_
  refine lv_aload_n hx hb dX1_touches_21 rfl (lv_at hl 0 rfl) ?_
  refine lv_iload_n hx hb dX1_touches_22 rfl (lv_at hl 2 rfl) ?_
  refine lv_iconst (v := 1) hx hb dX1_touches_23 (by first | rfl | decide) ?_
  refine ro_calli (va_runV (As := [.int a2, .int 1]) (rest := [.int (f2 a1.toNatClampNeg), .int (md_great (f1 a1.toNatClampNeg) (md_edge gw gh gs a2 0))]) ⟨hx, hb, hml, hown, hts⟩ (mtX1_edge l dC dI g0 r1 r2 r3 r4 r5 cB1 cB2 cB3 cB4 cB5 gt gw gh gs ge gi gk go ga f1 f2 f3 f4 f5 H.size a2 1 hs0 hac) (cwV 2 hts (gb_v kw_414 kw_416 kw_18 kw_23 kw_417) rfl rfl rfl (by decide +kernel) ⟨Nat.le_of_ble_eq_true rfl, Nat.le_of_ble_eq_true rfl⟩) ⟨ro_P.blind, va_recv hK hP (ci := 1) (q0 := 0) rfl rfl, ro_P.at hP hK⟩ rfl rfl hl.1 rfl (lv_room (Nat.le_of_ble_eq_true rfl)) dX1_touches_24 ⟨Nat.le_of_ble_eq_true rfl, Nat.le_of_ble_eq_true rfl⟩) hP hS hA (fun H locs hP hS hz hk => ?_)
  refine ro_calli (va_runS (As := [.int (f2 a1.toNatClampNeg), .int (md_edge gw gh gs a2 1)]) (rest := [.int (md_great (f1 a1.toNatClampNeg) (md_edge gw gh gs a2 0))]) ⟨hx, hb, hml, hown, hts⟩ (mtX1_greatest l dC dI  H.size (f2 a1.toNatClampNeg) (md_edge gw gh gs a2 1)) (va_cwS 2 hts (gb_s kw_397 kw_398 kw_23 kw_399) rfl rfl rfl (by decide +kernel) ⟨Nat.le_of_ble_eq_true rfl, Nat.le_of_ble_eq_true rfl⟩) ⟨ro_P.blind, ro_P.at (hP.sub [] rfl) (hK.sub [] rfl)⟩ rfl rfl hl.1 rfl (lv_room (Nat.le_of_ble_eq_true rfl)) dX1_touches_27 ⟨Nat.le_of_ble_eq_true rfl, Nat.le_of_ble_eq_true rfl⟩) hP hS hA (fun H locs hP hS hz hk => ?_)
  refine lv_aload_n hx hb dX1_touches_30 rfl (lv_at hl 0 rfl) ?_
  refine va_get (D := (dC, dI)) (ci := 1) (v := .ref r3) (C := "TileBinsModel") (T := TX1) (N := 14) hx hb hts inX1 hown hK hP 0 rfl rfl 9 (by decide) (hts _ kw_336) (fun _ h9 => h9) rfl dX1_touches_31 ?_
  refine lv_iload_n hx hb dX1_touches_34 rfl (lv_at hl 1 rfl) ?_
  refine va_iald hx hb hK hP 3 2 rfl rfl hi dX1_touches_35 ?_
  refine lv_aload_n hx hb dX1_touches_36 rfl (lv_at hl 0 rfl) ?_
  refine lv_iload_n hx hb dX1_touches_37 rfl (lv_at hl 2 rfl) ?_
  refine lv_iconst (v := 2) hx hb dX1_touches_38 (by first | rfl | decide) ?_
  refine ro_calli (va_runV (As := [.int a2, .int 2]) (rest := [.int (f3 a1.toNatClampNeg), .int (md_great (f2 a1.toNatClampNeg) (md_edge gw gh gs a2 1)), .int (md_great (f1 a1.toNatClampNeg) (md_edge gw gh gs a2 0))]) ⟨hx, hb, hml, hown, hts⟩ (mtX1_edge l dC dI g0 r1 r2 r3 r4 r5 cB1 cB2 cB3 cB4 cB5 gt gw gh gs ge gi gk go ga f1 f2 f3 f4 f5 H.size a2 2 hs0 hac) (cwV 2 hts (gb_v kw_414 kw_416 kw_18 kw_23 kw_417) rfl rfl rfl (by decide +kernel) ⟨Nat.le_of_ble_eq_true rfl, Nat.le_of_ble_eq_true rfl⟩) ⟨ro_P.blind, va_recv hK hP (ci := 1) (q0 := 0) rfl rfl, ro_P.at hP hK⟩ rfl rfl hl.1 rfl (lv_room (Nat.le_of_ble_eq_true rfl)) dX1_touches_39 ⟨Nat.le_of_ble_eq_true rfl, Nat.le_of_ble_eq_true rfl⟩) hP hS hA (fun H locs hP hS hz hk => ?_)
  refine ro_calli (va_runS (As := [.int (f3 a1.toNatClampNeg), .int (md_edge gw gh gs a2 2)]) (rest := [.int (md_great (f2 a1.toNatClampNeg) (md_edge gw gh gs a2 1)), .int (md_great (f1 a1.toNatClampNeg) (md_edge gw gh gs a2 0))]) ⟨hx, hb, hml, hown, hts⟩ (mtX1_least l dC dI  H.size (f3 a1.toNatClampNeg) (md_edge gw gh gs a2 2)) (va_cwS 2 hts (gb_s kw_400 kw_401 kw_23 kw_402) rfl rfl rfl (by decide +kernel) ⟨Nat.le_of_ble_eq_true rfl, Nat.le_of_ble_eq_true rfl⟩) ⟨ro_P.blind, ro_P.at (hP.sub [] rfl) (hK.sub [] rfl)⟩ rfl rfl hl.1 rfl (lv_room (Nat.le_of_ble_eq_true rfl)) dX1_touches_42 ⟨Nat.le_of_ble_eq_true rfl, Nat.le_of_ble_eq_true rfl⟩) hP hS hA (fun H locs hP hS hz hk => ?_)
  refine lv_aload_n hx hb dX1_touches_45 rfl (lv_at hl 0 rfl) ?_
  refine va_get (D := (dC, dI)) (ci := 1) (v := .ref r4) (C := "TileBinsModel") (T := TX1) (N := 14) hx hb hts inX1 hown hK hP 0 rfl rfl 10 (by decide) (hts _ kw_337) (fun _ h9 => h9) rfl dX1_touches_46 ?_
  refine lv_iload_n hx hb dX1_touches_49 rfl (lv_at hl 1 rfl) ?_
  refine va_iald hx hb hK hP 4 3 rfl rfl hi dX1_touches_50 ?_
  refine lv_aload_n hx hb dX1_touches_51 rfl (lv_at hl 0 rfl) ?_
  refine lv_iload_n hx hb dX1_touches_52 rfl (lv_at hl 2 rfl) ?_
  refine lv_iconst (v := 3) hx hb dX1_touches_53 (by first | rfl | decide) ?_
  refine ro_calli (va_runV (As := [.int a2, .int 3]) (rest := [.int (f4 a1.toNatClampNeg), .int (md_least (f3 a1.toNatClampNeg) (md_edge gw gh gs a2 2)), .int (md_great (f2 a1.toNatClampNeg) (md_edge gw gh gs a2 1)), .int (md_great (f1 a1.toNatClampNeg) (md_edge gw gh gs a2 0))]) ⟨hx, hb, hml, hown, hts⟩ (mtX1_edge l dC dI g0 r1 r2 r3 r4 r5 cB1 cB2 cB3 cB4 cB5 gt gw gh gs ge gi gk go ga f1 f2 f3 f4 f5 H.size a2 3 hs0 hac) (cwV 2 hts (gb_v kw_414 kw_416 kw_18 kw_23 kw_417) rfl rfl rfl (by decide +kernel) ⟨Nat.le_of_ble_eq_true rfl, Nat.le_of_ble_eq_true rfl⟩) ⟨ro_P.blind, va_recv hK hP (ci := 1) (q0 := 0) rfl rfl, ro_P.at hP hK⟩ rfl rfl hl.1 rfl (lv_room (Nat.le_of_ble_eq_true rfl)) dX1_touches_54 ⟨Nat.le_of_ble_eq_true rfl, Nat.le_of_ble_eq_true rfl⟩) hP hS hA (fun H locs hP hS hz hk => ?_)
  refine ro_calli (va_runS (As := [.int (f4 a1.toNatClampNeg), .int (md_edge gw gh gs a2 3)]) (rest := [.int (md_least (f3 a1.toNatClampNeg) (md_edge gw gh gs a2 2)), .int (md_great (f2 a1.toNatClampNeg) (md_edge gw gh gs a2 1)), .int (md_great (f1 a1.toNatClampNeg) (md_edge gw gh gs a2 0))]) ⟨hx, hb, hml, hown, hts⟩ (mtX1_least l dC dI  H.size (f4 a1.toNatClampNeg) (md_edge gw gh gs a2 3)) (va_cwS 2 hts (gb_s kw_400 kw_401 kw_23 kw_402) rfl rfl rfl (by decide +kernel) ⟨Nat.le_of_ble_eq_true rfl, Nat.le_of_ble_eq_true rfl⟩) ⟨ro_P.blind, ro_P.at (hP.sub [] rfl) (hK.sub [] rfl)⟩ rfl rfl hl.1 rfl (lv_room (Nat.le_of_ble_eq_true rfl)) dX1_touches_57 ⟨Nat.le_of_ble_eq_true rfl, Nat.le_of_ble_eq_true rfl⟩) hP hS hA (fun H locs hP hS hz hk => ?_)
  refine ro_calli (va_runS (As := [.int (md_great (f1 a1.toNatClampNeg) (md_edge gw gh gs a2 0)), .int (md_great (f2 a1.toNatClampNeg) (md_edge gw gh gs a2 1)), .int (md_least (f3 a1.toNatClampNeg) (md_edge gw gh gs a2 2)), .int (md_least (f4 a1.toNatClampNeg) (md_edge gw gh gs a2 3))]) (rest := []) ⟨hx, hb, hml, hown, hts⟩ (mtX1_isEmpty l dC dI  H.size (md_great (f1 a1.toNatClampNeg) (md_edge gw gh gs a2 0)) (md_great (f2 a1.toNatClampNeg) (md_edge gw gh gs a2 1)) (md_least (f3 a1.toNatClampNeg) (md_edge gw gh gs a2 2)) (md_least (f4 a1.toNatClampNeg) (md_edge gw gh gs a2 3))) (va_cwS 4 hts (gb_s kw_403 kw_404 kw_23 kw_405) rfl rfl rfl (by decide +kernel) ⟨Nat.le_of_ble_eq_true rfl, Nat.le_of_ble_eq_true rfl⟩) ⟨ro_P.blind, ro_P.at (hP.sub [] rfl) (hK.sub [] rfl)⟩ rfl rfl hl.1 rfl (lv_room (Nat.le_of_ble_eq_true rfl)) dX1_touches_60 ⟨Nat.le_of_ble_eq_true rfl, Nat.le_of_ble_eq_true rfl⟩) hP hS hA (fun H locs hP hS hz hk => ?_)
  refine lv_if_ne (tgt := 70) hx hb dX1_touches_63 (by decide) (fun c_1 => ?_) (fun c_1 => ?_)
  · refine lv_iconst (v := 0) hx hb dX1_touches_70 (by first | rfl | decide) ?_
    exact W.zret (v := 0) hx hb hr (by first | rfl | (unfold md_in; (repeat' split) <;> rfl)) (fun t ht hW => ⟨⟨_, (), rfl, (show 0 = md_touch gw gh gs f1 f2 f3 f4 a1 a2 by unfold md_touch; rw [if_neg c_1]), trivial⟩, hS.F ht⟩) hS.2.2 dX1_touches_71
  · refine lv_iconst (v := 1) hx hb dX1_touches_66 (by first | rfl | decide) ?_
    refine lv_goto (tgt := 71) hx hb dX1_touches_67 (by decide) ?_
    exact W.zret (v := 1) hx hb hr (by first | rfl | (unfold md_in; (repeat' split) <;> rfl)) (fun t ht hW => ⟨⟨_, (), rfl, (show 1 = md_touch gw gh gs f1 f2 f3 f4 a1 a2 by unfold md_touch; rw [if_pos c_1]), trivial⟩, hS.F ht⟩) hS.2.2 dX1_touches_71
/-- how many of the first tiles the item touches -/
def md_ct (gw gh gs : Int32) (f1 f2 f3 f4 : Nat → Int32) (a1 : Int32) : Nat → Int32
  | 0 => 0
  | j + 1 => if md_touch gw gh gs f1 f2 f3 f4 a1 (nI j) = 0 then md_ct gw gh gs f1 f2 f3 f4 a1 j else md_ct gw gh gs f1 f2 f3 f4 a1 j + 1
theorem md_ct_s (gw gh gs : Int32) (f1 f2 f3 f4 : Nat → Int32) (a1 : Int32) (j : Nat) : md_ct gw gh gs f1 f2 f3 f4 a1 (j + 1) = if md_touch gw gh gs f1 f2 f3 f4 a1 (nI j) = 0 then md_ct gw gh gs f1 f2 f3 f4 a1 j else md_ct gw gh gs f1 f2 f3 f4 a1 j + 1 := rfl
def md_tilesOf (gw gh gs : Int32) (f1 f2 f3 f4 : Nat → Int32) (a1 : Int32) : Int32 := md_ct gw gh gs f1 f2 f3 f4 a1 (md_tiles gw gh gs).toNatClampNeg
/-- how many of the first items touch the tile -/
def md_cm (gw gh gs : Int32) (f1 f2 f3 f4 : Nat → Int32) (a1 : Int32) : Nat → Int32
  | 0 => 0
  | j + 1 => if md_touch gw gh gs f1 f2 f3 f4 (nI j) a1 = 0 then md_cm gw gh gs f1 f2 f3 f4 a1 j else md_cm gw gh gs f1 f2 f3 f4 a1 j + 1
theorem md_cm_s (gw gh gs : Int32) (f1 f2 f3 f4 : Nat → Int32) (a1 : Int32) (j : Nat) : md_cm gw gh gs f1 f2 f3 f4 a1 (j + 1) = if md_touch gw gh gs f1 f2 f3 f4 (nI j) a1 = 0 then md_cm gw gh gs f1 f2 f3 f4 a1 j else md_cm gw gh gs f1 f2 f3 f4 a1 j + 1 := rfl
def md_manyOf (gi : Int32) (gw gh gs : Int32) (f1 f2 f3 f4 : Nat → Int32) (a1 : Int32) : Int32 := md_cm gw gh gs f1 f2 f3 f4 a1 gi.toNatClampNeg
set_option maxHeartbeats 4000000 in
set_option maxRecDepth 100000 in
theorem mtX1_tilesOf (l : Launch) (dC : Nat → ClassId) (dI : Nat → Nat → Nat) (g0 r1 r2 r3 r4 r5 : Nat) (cB1 cB2 cB3 cB4 cB5 : ClassId) (gt gw gh gs ge gi gk go ga : Int32) (f1 f2 f3 f4 f5 : Nat → Int32) (sz : Nat) (a1 : Int32) (hs0 : ¬ gs = 0) (hac : ¬ md_across gw gs = 0) (hi : vp_in a1 4096) (N : Nat) (hN : md_tiles gw gh gs = nI N) (h31 : N < 2 ^ 31) : Met l yX1_tilesOf wsX1_tilesOf ({ frames := 3, cells := 0, slots := 0, locals := 67 }) (va_Pc [.ref g0, .int a1] (ro_P (dC, dI) vwCl [(g0, .inr (1, [.int gt, .int gw, .int gh, .int gs, .int ge, .int gi, .int gk, .ref r1, .ref r2, .ref r3, .ref r4, .ref r5, .int go, .int ga])), (r1, .inl (cB1, 4096, .inl f1)), (r2, .inl (cB2, 4096, .inl f2)), (r3, .inl (cB3, 4096, .inl f3)), (r4, .inl (cB4, 4096, .inl f4)), (r5, .inl (cB5, 4096, .inl f5))] [(cB1, .int), (cB2, .int), (cB3, .int), (cB4, .int), (cB5, .int)] sz)) (va_Qi (fun (r : Int32) (_ : Unit) => r = md_tilesOf gw gh gs f1 f2 f3 f4 a1) (fun _ _ => True) (ro_A sz)) 0 0 (ro_A sz) := by
  refine Met.ofW (cc := cX1_tilesOf) (maxL := 4) (ret := (some .int)) (by decide) rfl ?_
  intro p e s m args below meth c s₁ B hml hv
  obtain ⟨rfl, hsz, hP, hK⟩ := hv
  have hx := B.exec
  have hb := B.bytes
  have hr := B.returns
  have hts : ∀ w ∈ gb, w.before _ s = true := fun w h => atoms_spec (ws := wsX1_tilesOf) B.pre w (List.mem_cons_of_mem _ h)
  have hown : s.vm.findClass "TileBinsModel" = some m.cls := findClass_of_methodNamed B.named
  have hlocks := B.notSynchronized
  subst hsz
  have hA : ∀ q : Nat, s.heap.size ≤ q → ro_A s.heap.size q := fun q h => h
  have hS : va_S (ro_A s.heap.size) s.heap s.heap [] := va_S.rf
  have hl := lv_entry ([.ref g0, .int a1]) (n := 4) (Nat.le_of_ble_eq_true rfl)
  rw [lg_entry_eq]
  generalize (lg_sl ([.ref g0, .int a1]) ++ List.replicate (4 - (lg_sl ([.ref g0, .int a1])).length) Slot.unset).toArray = ls at hl ⊢
  have hl : lv_has ls 4 [(0, .ref g0), (1, .int a1)] := hl
  refine lv_iconst (v := 0) hx hb dX1_tilesOf_0 (by first | rfl | decide) ?_
  refine lv_istore_n (lv' := [(2, .int 0), (0, .ref g0), (1, .int a1)]) hx hb dX1_tilesOf_1 rfl hl (by decide) rfl (fun ls hl => ?_)
  refine lv_iconst (v := 0) hx hb dX1_tilesOf_2 (by first | rfl | decide) ?_
  refine lv_istore_n (lv' := [(3, .int 0), (2, .int 0), (0, .ref g0), (1, .int a1)]) hx hb dX1_tilesOf_3 rfl hl (by decide) rfl (fun ls hl => ?_)
  refine loopW (pc := 4) (fun d H locs ls => ∃ (j : Nat) (y2 : Int32), j + d = N ∧ y2 = md_ct gw gh gs f1 f2 f3 f4 a1 j ∧ va_P (dC, dI) vwCl [(g0, .inr (1, [.int gt, .int gw, .int gh, .int gs, .int ge, .int gi, .int gk, .ref r1, .ref r2, .ref r3, .ref r4, .ref r5, .int go, .int ga])), (r1, .inl (cB1, 4096, .inl f1)), (r2, .inl (cB2, 4096, .inl f2)), (r3, .inl (cB3, 4096, .inl f3)), (r4, .inl (cB4, 4096, .inl f4)), (r5, .inl (cB5, 4096, .inl f5))] H ∧ va_S (ro_A s.heap.size) s.heap H locs ∧ lv_has ls 4 [(3, .int (nI j)), (2, .int y2), (0, .ref g0), (1, .int a1)]) (fun d H locs ls hI ih => ?_) N ⟨0, 0, by omega, rfl, hP, hS, hl⟩
  obtain ⟨j, y2, hjd, hy, hP, hS, hl⟩ := hI
  refine lv_iload_n hx hb dX1_tilesOf_4 rfl (lv_at hl 0 rfl) ?_
  refine lv_aload_n hx hb dX1_tilesOf_5 rfl (lv_at hl 2 rfl) ?_
  refine ro_calli (va_runV (As := []) (rest := [.int (nI j)]) ⟨hx, hb, hml, hown, hts⟩ (mtX1_tiles l dC dI g0 r1 r2 r3 r4 r5 cB1 cB2 cB3 cB4 cB5 gt gw gh gs ge gi gk go ga f1 f2 f3 f4 f5 H.size  hs0) (cwV 0 hts (gb_v kw_385 kw_387 kw_14 kw_23 kw_388) rfl rfl rfl (by decide +kernel) ⟨Nat.le_of_ble_eq_true rfl, Nat.le_of_ble_eq_true rfl⟩) ⟨ro_P.blind, va_recv hK hP (ci := 1) (q0 := 0) rfl rfl, ro_P.at hP hK⟩ rfl rfl hl.1 rfl (lv_room (Nat.le_of_ble_eq_true rfl)) dX1_tilesOf_6 ⟨Nat.le_of_ble_eq_true rfl, Nat.le_of_ble_eq_true rfl⟩) hP hS hA (fun H locs hP hS hz hk => ?_)
  refine lv_icmp_ge (tgt := 35) hx hb dX1_tilesOf_9 (by decide) (fun c_1 => ?_) (fun c_1 => ?_)
  · refine lv_iload_n hx hb dX1_tilesOf_35 rfl (lv_at hl 1 rfl) ?_
    exact W.iret (v := y2) hx hb hr (fun t ht hW => ⟨⟨_, (), rfl, (by have hjN := lm_end hN h31 (by omega) c_1; show _ = md_tilesOf gw gh gs f1 f2 f3 f4 a1; rw [hy, hjN]; unfold md_tilesOf; rw [hN, nI_clamp h31]), trivial⟩, hS.F ht⟩) hS.2.2 dX1_tilesOf_36
  · refine lv_aload_n hx hb dX1_tilesOf_12 rfl (lv_at hl 2 rfl) ?_
    refine lv_iload_n hx hb dX1_tilesOf_13 rfl (lv_at hl 3 rfl) ?_
    refine lv_iload_n hx hb dX1_tilesOf_14 rfl (lv_at hl 0 rfl) ?_
    refine ro_calli (va_runV (As := [.int a1, .int (nI j)]) (rest := []) ⟨hx, hb, hml, hown, hts⟩ (mtX1_touches l dC dI g0 r1 r2 r3 r4 r5 cB1 cB2 cB3 cB4 cB5 gt gw gh gs ge gi gk go ga f1 f2 f3 f4 f5 H.size a1 (nI j) hs0 hac hi) (cwV 2 hts (gb_v kw_410 kw_412 kw_17 kw_23 kw_413) rfl rfl rfl (by decide +kernel) ⟨Nat.le_of_ble_eq_true rfl, Nat.le_of_ble_eq_true rfl⟩) ⟨ro_P.blind, va_recv hK hP (ci := 1) (q0 := 0) rfl rfl, ro_P.at hP hK⟩ rfl rfl hl.1 rfl (lv_room (Nat.le_of_ble_eq_true rfl)) dX1_tilesOf_15 ⟨Nat.le_of_ble_eq_true rfl, Nat.le_of_ble_eq_true rfl⟩) hP hS hA (fun H locs hP hS hz hk => ?_)
    refine lv_if_eq (tgt := 27) hx hb dX1_tilesOf_18 (by decide) (fun c_2 => ?_) (fun c_2 => ?_)
    · refine lv_iload_n hx hb dX1_tilesOf_27 rfl (lv_at hl 1 rfl) ?_
      refine lv_istore_n (lv' := [(2, .int y2), (3, .int (nI j)), (0, .ref g0), (1, .int a1)]) hx hb dX1_tilesOf_28 rfl hl (by decide) rfl (fun ls hl => ?_)
      refine lv_iinc (v := (nI j) + 1) (lv' := [(3, .int ((nI j) + 1)), (2, .int y2), (0, .ref g0), (1, .int a1)]) hx hb dX1_tilesOf_29 hl (k := 1) rfl (by rfl) (by decide) rfl (fun ls hl => ?_)
      refine lv_goto (tgt := 4) hx hb dX1_tilesOf_32 (by decide) ?_
      rw [nI_1] at hl
      exact ih (d - 1) _ _ _ (by have := lm_go hN h31 (by omega) c_1; omega) ⟨j + 1, _, by have := lm_go hN h31 (by omega) c_1; omega, (by rw [md_ct_s, if_pos c_2, hy]), hP, hS, lv_sub hl [0, 1, 2, 3] rfl⟩
    · refine lv_iload_n hx hb dX1_tilesOf_21 rfl (lv_at hl 1 rfl) ?_
      refine lv_iconst (v := 1) hx hb dX1_tilesOf_22 (by first | rfl | decide) ?_
      refine lv_iadd hx hb dX1_tilesOf_23 ?_
      refine lv_goto (tgt := 28) hx hb dX1_tilesOf_24 (by decide) ?_
      refine lv_istore_n (lv' := [(2, .int (y2 + 1)), (3, .int (nI j)), (0, .ref g0), (1, .int a1)]) hx hb dX1_tilesOf_28 rfl hl (by decide) rfl (fun ls hl => ?_)
      refine lv_iinc (v := (nI j) + 1) (lv' := [(3, .int ((nI j) + 1)), (2, .int (y2 + 1)), (0, .ref g0), (1, .int a1)]) hx hb dX1_tilesOf_29 hl (k := 1) rfl (by rfl) (by decide) rfl (fun ls hl => ?_)
      refine lv_goto (tgt := 4) hx hb dX1_tilesOf_32 (by decide) ?_
      rw [nI_1] at hl
      exact ih (d - 1) _ _ _ (by have := lm_go hN h31 (by omega) c_1; omega) ⟨j + 1, _, by have := lm_go hN h31 (by omega) c_1; omega, (by rw [md_ct_s, if_neg c_2, hy]), hP, hS, lv_sub hl [0, 1, 2, 3] rfl⟩
set_option maxHeartbeats 4000000 in
set_option maxRecDepth 100000 in
theorem mtX1_manyOf (l : Launch) (dC : Nat → ClassId) (dI : Nat → Nat → Nat) (g0 r1 r2 r3 r4 r5 : Nat) (cB1 cB2 cB3 cB4 cB5 : ClassId) (gt gw gh gs ge gi gk go ga : Int32) (f1 f2 f3 f4 f5 : Nat → Int32) (sz : Nat) (a1 : Int32) (hs0 : ¬ gs = 0) (hac : ¬ md_across gw gs = 0) (N : Nat) (hN : gi = nI N) (hN4 : N ≤ 4096) : Met l yX1_manyOf wsX1_manyOf ({ frames := 3, cells := 0, slots := 0, locals := 67 }) (va_Pc [.ref g0, .int a1] (ro_P (dC, dI) vwCl [(g0, .inr (1, [.int gt, .int gw, .int gh, .int gs, .int ge, .int gi, .int gk, .ref r1, .ref r2, .ref r3, .ref r4, .ref r5, .int go, .int ga])), (r1, .inl (cB1, 4096, .inl f1)), (r2, .inl (cB2, 4096, .inl f2)), (r3, .inl (cB3, 4096, .inl f3)), (r4, .inl (cB4, 4096, .inl f4)), (r5, .inl (cB5, 4096, .inl f5))] [(cB1, .int), (cB2, .int), (cB3, .int), (cB4, .int), (cB5, .int)] sz)) (va_Qi (fun (r : Int32) (_ : Unit) => r = md_manyOf gi gw gh gs f1 f2 f3 f4 a1) (fun _ _ => True) (ro_A sz)) 0 0 (ro_A sz) := by
  refine Met.ofW (cc := cX1_manyOf) (maxL := 4) (ret := (some .int)) (by decide) rfl ?_
  intro p e s m args below meth c s₁ B hml hv
  obtain ⟨rfl, hsz, hP, hK⟩ := hv
  have hx := B.exec
  have hb := B.bytes
  have hr := B.returns
  have hts : ∀ w ∈ gb, w.before _ s = true := fun w h => atoms_spec (ws := wsX1_manyOf) B.pre w (List.mem_cons_of_mem _ h)
  have hown : s.vm.findClass "TileBinsModel" = some m.cls := findClass_of_methodNamed B.named
  have hlocks := B.notSynchronized
  subst hsz
  have hA : ∀ q : Nat, s.heap.size ≤ q → ro_A s.heap.size q := fun q h => h
  have hS : va_S (ro_A s.heap.size) s.heap s.heap [] := va_S.rf
  have hl := lv_entry ([.ref g0, .int a1]) (n := 4) (Nat.le_of_ble_eq_true rfl)
  rw [lg_entry_eq]
  generalize (lg_sl ([.ref g0, .int a1]) ++ List.replicate (4 - (lg_sl ([.ref g0, .int a1])).length) Slot.unset).toArray = ls at hl ⊢
  have hl : lv_has ls 4 [(0, .ref g0), (1, .int a1)] := hl
  refine lv_iconst (v := 0) hx hb dX1_manyOf_0 (by first | rfl | decide) ?_
  refine lv_istore_n (lv' := [(2, .int 0), (0, .ref g0), (1, .int a1)]) hx hb dX1_manyOf_1 rfl hl (by decide) rfl (fun ls hl => ?_)
  refine lv_iconst (v := 0) hx hb dX1_manyOf_2 (by first | rfl | decide) ?_
  refine lv_istore_n (lv' := [(3, .int 0), (2, .int 0), (0, .ref g0), (1, .int a1)]) hx hb dX1_manyOf_3 rfl hl (by decide) rfl (fun ls hl => ?_)
  refine loopW (pc := 4) (fun d H locs ls => ∃ (j : Nat) (y2 : Int32), j + d = N ∧ y2 = md_cm gw gh gs f1 f2 f3 f4 a1 j ∧ va_P (dC, dI) vwCl [(g0, .inr (1, [.int gt, .int gw, .int gh, .int gs, .int ge, .int gi, .int gk, .ref r1, .ref r2, .ref r3, .ref r4, .ref r5, .int go, .int ga])), (r1, .inl (cB1, 4096, .inl f1)), (r2, .inl (cB2, 4096, .inl f2)), (r3, .inl (cB3, 4096, .inl f3)), (r4, .inl (cB4, 4096, .inl f4)), (r5, .inl (cB5, 4096, .inl f5))] H ∧ va_S (ro_A s.heap.size) s.heap H locs ∧ lv_has ls 4 [(3, .int (nI j)), (2, .int y2), (0, .ref g0), (1, .int a1)]) (fun d H locs ls hI ih => ?_) N ⟨0, 0, by omega, rfl, hP, hS, hl⟩
  obtain ⟨j, y2, hjd, hy, hP, hS, hl⟩ := hI
  refine lv_iload_n hx hb dX1_manyOf_4 rfl (lv_at hl 0 rfl) ?_
  refine lv_aload_n hx hb dX1_manyOf_5 rfl (lv_at hl 2 rfl) ?_
  refine va_get (D := (dC, dI)) (ci := 1) (v := .int gi) (C := "TileBinsModel") (T := TX1) (N := 14) hx hb hts inX1 hown hK hP 0 rfl rfl 5 (by decide) (hts _ kw_332) (fun _ h9 => h9) rfl dX1_manyOf_6 ?_
  refine lv_icmp_ge (tgt := 35) hx hb dX1_manyOf_9 (by decide) (fun c_1 => ?_) (fun c_1 => ?_)
  · refine lv_iload_n hx hb dX1_manyOf_35 rfl (lv_at hl 1 rfl) ?_
    exact W.iret (v := y2) hx hb hr (fun t ht hW => ⟨⟨_, (), rfl, (by have hjN := lm_end hN (by omega) (by omega) c_1; show _ = md_manyOf gi gw gh gs f1 f2 f3 f4 a1; rw [hy, hjN]; unfold md_manyOf; rw [hN, nI_clamp (by omega)]), trivial⟩, hS.F ht⟩) hS.2.2 dX1_manyOf_36
  · refine lv_aload_n hx hb dX1_manyOf_12 rfl (lv_at hl 2 rfl) ?_
    refine lv_iload_n hx hb dX1_manyOf_13 rfl (lv_at hl 0 rfl) ?_
    refine lv_iload_n hx hb dX1_manyOf_14 rfl (lv_at hl 3 rfl) ?_
    refine ro_calli (va_runV (As := [.int (nI j), .int a1]) (rest := []) ⟨hx, hb, hml, hown, hts⟩ (mtX1_touches l dC dI g0 r1 r2 r3 r4 r5 cB1 cB2 cB3 cB4 cB5 gt gw gh gs ge gi gk go ga f1 f2 f3 f4 f5 H.size (nI j) a1 hs0 hac (vp_in_nI (by have := lm_go hN (by omega) (by omega) c_1; omega) (by omega))) (cwV 2 hts (gb_v kw_410 kw_412 kw_17 kw_23 kw_413) rfl rfl rfl (by decide +kernel) ⟨Nat.le_of_ble_eq_true rfl, Nat.le_of_ble_eq_true rfl⟩) ⟨ro_P.blind, va_recv hK hP (ci := 1) (q0 := 0) rfl rfl, ro_P.at hP hK⟩ rfl rfl hl.1 rfl (lv_room (Nat.le_of_ble_eq_true rfl)) dX1_manyOf_15 ⟨Nat.le_of_ble_eq_true rfl, Nat.le_of_ble_eq_true rfl⟩) hP hS hA (fun H locs hP hS hz hk => ?_)
    refine lv_if_eq (tgt := 27) hx hb dX1_manyOf_18 (by decide) (fun c_2 => ?_) (fun c_2 => ?_)
    · refine lv_iload_n hx hb dX1_manyOf_27 rfl (lv_at hl 1 rfl) ?_
      refine lv_istore_n (lv' := [(2, .int y2), (3, .int (nI j)), (0, .ref g0), (1, .int a1)]) hx hb dX1_manyOf_28 rfl hl (by decide) rfl (fun ls hl => ?_)
      refine lv_iinc (v := (nI j) + 1) (lv' := [(3, .int ((nI j) + 1)), (2, .int y2), (0, .ref g0), (1, .int a1)]) hx hb dX1_manyOf_29 hl (k := 1) rfl (by rfl) (by decide) rfl (fun ls hl => ?_)
      refine lv_goto (tgt := 4) hx hb dX1_manyOf_32 (by decide) ?_
      rw [nI_1] at hl
      exact ih (d - 1) _ _ _ (by have := lm_go hN (by omega) (by omega) c_1; omega) ⟨j + 1, _, by have := lm_go hN (by omega) (by omega) c_1; omega, (by rw [md_cm_s, if_pos c_2, hy]), hP, hS, lv_sub hl [0, 1, 2, 3] rfl⟩
    · refine lv_iload_n hx hb dX1_manyOf_21 rfl (lv_at hl 1 rfl) ?_
      refine lv_iconst (v := 1) hx hb dX1_manyOf_22 (by first | rfl | decide) ?_
      refine lv_iadd hx hb dX1_manyOf_23 ?_
      refine lv_goto (tgt := 28) hx hb dX1_manyOf_24 (by decide) ?_
      refine lv_istore_n (lv' := [(2, .int (y2 + 1)), (3, .int (nI j)), (0, .ref g0), (1, .int a1)]) hx hb dX1_manyOf_28 rfl hl (by decide) rfl (fun ls hl => ?_)
      refine lv_iinc (v := (nI j) + 1) (lv' := [(3, .int ((nI j) + 1)), (2, .int (y2 + 1)), (0, .ref g0), (1, .int a1)]) hx hb dX1_manyOf_29 hl (k := 1) rfl (by rfl) (by decide) rfl (fun ls hl => ?_)
      refine lv_goto (tgt := 4) hx hb dX1_manyOf_32 (by decide) ?_
      rw [nI_1] at hl
      exact ih (d - 1) _ _ _ (by have := lm_go hN (by omega) (by omega) c_1; omega) ⟨j + 1, _, by have := lm_go hN (by omega) (by omega) c_1; omega, (by rw [md_cm_s, if_neg c_2, hy]), hP, hS, lv_sub hl [0, 1, 2, 3] rfl⟩
