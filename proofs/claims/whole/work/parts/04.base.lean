/-! my own rows over the kit: calls that write nothing, the words of a throw carried along -/
/-- nothing that was there is written -/
def ro_A (sz : Nat) : Nat → Prop := fun q => sz ≤ q
theorem ro_kept {D : va_G} {cl : List vw_C} {ws : va_W} {H H1 : Heap} (hP : va_P D cl ws H) (hk : ∀ q : Nat, q < H.size → H1[q]? = H[q]?) : va_P D cl ws H1 :=
  hP.kept (fun k q h => hk q.1 (hP k q h).lt)
/-- a start that asks for cells alone -/
def ro_P (D : va_G) (cl : List vw_C) (ws : va_W) (tys : List (ClassId × FieldType)) (sz : Nat) (U : State) : Prop := U.heap.size = sz ∧ va_P D cl ws U.heap ∧ va_K D cl tys U
theorem ro_P.blind {D : va_G} {cl : List vw_C} {ws : va_W} {tys : List (ClassId × FieldType)} {sz : Nat} {av : List Value} : FrameBlind (va_Pc av (ro_P D cl ws tys sz)) := fun a U g mk q => by
  obtain ⟨q0, q1, qP, qK⟩ := q
  exact ⟨q0, q1, qP, va_K.moved (u := U) (U := U.calling g mk a) (Vm.Alike.refl U.vm) qK⟩
theorem ro_P.at {D : va_G} {cl : List vw_C} {ws : va_W} {tys : List (ClassId × FieldType)} {H : Heap} {s : State} (hP : va_P D cl ws H) (hK : va_K D cl tys s) {av : List Value} : ∀ U : State, U.heap = H → s.WarmedH U.vm → va_Pc av (ro_P D cl ws tys H.size) av.toArray U :=
  fun U hU hW => ⟨rfl, by rw [hU], by rw [hU]; exact hP, va_K.moved hW.alike hK⟩
section ROC
variable {p : Program} {l : Launch} {e : Env} {R : Room} {s : State} {m : MethodId} {args : Array Value} {below : List Frame} {meth : Method} {c : Code} {H : Heap} {locs : List Loc} {cells slots : Nat} {Q : State → Prop}
variable {A0 : Nat → Prop} {H0 : Heap} {a : Array Value} {pc : Nat} {ls : Array Slot} {st0 rest : List Value} {D : va_G} {cl : List vw_C} {ws : va_W}
/-- a call that writes nothing and makes nothing: the world stays -/
theorem ro_calli {v : Int32} (hr : va_Run p l e R s m args below meth c H locs cells slots 0 0 (F0 m pc ls st0) rest (va_Qi (fun (r : Int32) (_ : Unit) => r = v) (fun _ _ => True) (ro_A H.size) a) (ro_A H.size)) (hP : va_P D cl ws H) (hS : va_S A0 H0 H locs) (hA : ∀ q, H0.size ≤ q → A0 q)
    (kk : ∀ (H1 : Heap) (locs1 : List Loc), va_P D cl ws H1 → va_S A0 H0 H1 locs1 → H.size ≤ H1.size → (∀ q : Nat, q < H.size → H1[q]? = H[q]?) → W p l e R s m args below meth c H1 locs1 cells slots Q (F0 m (pc + 3) ls (.int v :: rest))) : W p l e R s m args below meth c H locs cells slots Q (F0 m pc ls st0) := by
  refine va_calli hr hS (fun q _ h => hA q (Nat.le_trans hS.1 h)) (fun q h => hA q (Nat.le_trans hS.1 h)) (fun r u t H1 locs1 ht hvm hw hB hz hk hS1 => ?_)
  have hw : r = v := hw
  subst hw
  have hk' : ∀ q : Nat, q < H.size → H1[q]? = H[q]? := fun q h => hk q h (Nat.not_le.mpr h)
  exact kk H1 locs1 (ro_kept hP hk') hS1 hz hk'
end ROC
/-- a start that asks for cells that are apart -/
def mu_P (D : va_G) (cl : List vw_C) (ws : va_W) (tys : List (ClassId × FieldType)) (sz : Nat) (U : State) : Prop := U.heap.size = sz ∧ va_P D cl ws U.heap ∧ va_K D cl tys U ∧ va_D (fun _ => True) ws
theorem mu_P.blind {D : va_G} {cl : List vw_C} {ws : va_W} {tys : List (ClassId × FieldType)} {sz : Nat} {av : List Value} : FrameBlind (va_Pc av (mu_P D cl ws tys sz)) := fun a U g mk q => by
  obtain ⟨q0, q1, qP, qK, qD⟩ := q
  exact ⟨q0, q1, qP, va_K.moved (u := U) (U := U.calling g mk a) (Vm.Alike.refl U.vm) qK, qD⟩
theorem mu_P.at {D : va_G} {cl : List vw_C} {ws : va_W} {tys : List (ClassId × FieldType)} {H : Heap} {s : State} {A : Nat → Prop} (hP : va_P D cl ws H) (hK : va_K D cl tys s) (hD : va_D A ws) {av : List Value} : ∀ U : State, U.heap = H → s.WarmedH U.vm → va_Pc av (mu_P D cl ws tys H.size) av.toArray U :=
  fun U hU hW => ⟨rfl, by rw [hU], by rw [hU]; exact hP, va_K.moved hW.alike hK, hD.weaken (fun _ _ _ _ => trivial)⟩
theorem va_S.refl' {A : Nat → Prop} {H0 : Heap} : va_S A H0 H0 [] := va_S.rf
/-! switches from 0 on -/
theorem sw_out5 {x : Int32} (h0 : ¬ x = 0) (h1 : ¬ x = 1) (h2 : ¬ x = 2) (h3 : ¬ x = 3) (h4 : ¬ x = 4) : x.toInt < 0 ∨ 4 < x.toInt := by
  have a0 := lv_neT h0 (a := 0) rfl
  have a1 := lv_neT h1 (a := 1) rfl
  have a2 := lv_neT h2 (a := 2) rfl
  have a3 := lv_neT h3 (a := 3) rfl
  have a4 := lv_neT h4 (a := 4) rfl
  omega
theorem sw_out6 {x : Int32} (h0 : ¬ x = 0) (h1 : ¬ x = 1) (h2 : ¬ x = 2) (h3 : ¬ x = 3) (h4 : ¬ x = 4) (h5 : ¬ x = 5) : x.toInt < 0 ∨ 5 < x.toInt := by
  have a := sw_out5 h0 h1 h2 h3 h4
  have a5 := lv_neT h5 (a := 5) rfl
  omega
theorem sw_out9 {x : Int32} (h0 : ¬ x = 0) (h1 : ¬ x = 1) (h2 : ¬ x = 2) (h3 : ¬ x = 3) (h4 : ¬ x = 4) (h5 : ¬ x = 5) (h6 : ¬ x = 6) (h7 : ¬ x = 7) (h8 : ¬ x = 8) : x.toInt < 0 ∨ 8 < x.toInt := by
  have a := sw_out6 h0 h1 h2 h3 h4 h5
  have a6 := lv_neT h6 (a := 6) rfl
  have a7 := lv_neT h7 (a := 7) rfl
  have a8 := lv_neT h8 (a := 8) rfl
  omega

theorem gb_g {ws : List Cond} (h : ∀ w ∈ ws, w ∈ gb) : GoodIn gb ws := fun w hw => ⟨h w hw, good_of_word (gb_in w (h w hw)).2⟩
theorem gb_c {cw : Cond} (h5 : cw ∈ gb) : GoodIn gb (cw :: gb) := gb_g (fun w hw => (List.mem_cons.mp hw).elim (fun e => by rw [e]; exact h5) id)
theorem gb_v {own C : String} {idx : Nat} {y : MethodName} {cw : Cond} (h1 : Cond.methodLink own idx y ∈ gb) (h2 : Cond.instanceMethod y ∈ gb) (h3 : Cond.selects C y y ∈ gb) (h4 : Cond.initialized C ∈ gb) (h5 : cw ∈ gb) : GoodIn gb (wsV own idx C y (cw :: gb)) :=
  gb_g (fun w hw => by
    rcases List.mem_append.mp hw with h | h
    · simp only [List.mem_cons, List.not_mem_nil, or_false] at h
      rcases h with rfl | rfl | rfl | rfl
      · exact h1
      · exact h2
      · exact h3
      · exact h4
    · exact (gb_c h5 w h).1)
theorem gb_s {own : String} {idx : Nat} {y : MethodName} {cw : Cond} (h1 : Cond.methodLink own idx y ∈ gb) (h2 : Cond.static y ∈ gb) (h4 : Cond.initialized y.cls ∈ gb) (h5 : cw ∈ gb) : GoodIn gb (va_wsS own idx y (cw :: gb)) :=
  gb_g (fun w hw => by
    rcases List.mem_append.mp hw with h | h
    · simp only [List.mem_cons, List.not_mem_nil, or_false] at h
      rcases h with rfl | rfl | rfl
      · exact h1
      · exact h2
      · exact h4
    · exact (gb_c h5 w h).1)
theorem kw_obj : (Cond.code Lib.objectInit ⟨#[0xb1]⟩ 1 none) ∈ gb := by decide +kernel
theorem kw_mmax : (Cond.code Lib.Math.max.name Lib.Math.max.code 2 (some .int)) ∈ gb := by decide +kernel
theorem kw_mmin : (Cond.code Lib.Math.min.name Lib.Math.min.code 2 (some .int)) ∈ gb := by decide +kernel
/-! the words of a throw that no table keeps: carried along -/
def tbBad : List Cond := [.castable "java/lang/IllegalArgumentException" "java/lang/IllegalArgumentException", .castable "java/lang/IllegalStateException" "java/lang/IllegalStateException", .castable "java/lang/IndexOutOfBoundsException" "java/lang/IndexOutOfBoundsException", .declares ⟨"java/lang/RuntimeException", "<init>", "(Ljava/lang/String;)V"⟩, .declares ⟨"java/lang/Exception", "<init>", "(Ljava/lang/String;)V"⟩, .declares ⟨"java/lang/Throwable", "<init>", "(Ljava/lang/String;)V"⟩]
def tbStr : List (Nat × String) := [(23, "a field is 1 to 1024 places wide and high"), (32, "a side is 8, 16, 32 or 64"), (34, "a store has 1 to 8192 cells"), (70, "the field is full"), (83, "there is no such tile"), (94, "no tile is open"), (101, "there is no such item"), (104, "of an item there is 0 to 5"), (115, "of a tile there is 0 to 4"), (117, "the place is not in the field"), (125, "there is a count of 0 to 4")]
def tbZ (A : Nat → Prop) (U : State) (H : Heap) : Prop := vx_Zq Bundle.tN "UNASSIGNED_STACK" Bundle.steD A U H ∧ vx_Zq Bundle.tN "SUPPRESSED_SENTINEL" Bundle.listD A U H ∧ (∀ w ∈ tbBad, va_Nw w U) ∧ (∀ q ∈ tbStr, ∃ sa : Nat, vk_R "TileBins" q.1 q.2 sa U) ∧ va_Nc "java/lang/IllegalArgumentException" "java/lang/IndexOutOfBoundsException" U
theorem tbBad_on : ∀ w ∈ tbBad, w.onTables = true := by decide +kernel
theorem tbZ.u {A : Nat → Prop} {U : State} {H : Heap} (h : tbZ A U H) : vx_Zq Bundle.tN "UNASSIGNED_STACK" Bundle.steD A U H := h.1
theorem tbZ.n {A : Nat → Prop} {U : State} {H : Heap} (h : tbZ A U H) : vx_Zq Bundle.tN "SUPPRESSED_SENTINEL" Bundle.listD A U H := h.2.1
theorem tbZ.bad {A : Nat → Prop} {U : State} {H : Heap} {args : Array Value} (h : tbZ A U H) : ∀ w ∈ tbBad, w.before args U = true := fun w hw => va_Nw.use (tbBad_on w hw) (h.2.2.1 w hw)
theorem tbZ.str {A : Nat → Prop} {U : State} {H : Heap} (h : tbZ A U H) (q : Nat × String) (hq : q ∈ tbStr) : ∃ sa : Nat, vk_R "TileBins" q.1 q.2 sa U := h.2.2.2.1 q hq
theorem tbZ.nc {A : Nat → Prop} {U : State} {H : Heap} (h : tbZ A U H) : va_Nc "java/lang/IllegalArgumentException" "java/lang/IndexOutOfBoundsException" U := h.2.2.2.2
theorem tbZ.warm {A : Nat → Prop} {s U : State} {H : Heap} (hW : s.WarmedH U.vm) (h : tbZ A s H) : tbZ A U H := by
  obtain ⟨h1, h2, h3, h4, h5⟩ := h
  refine ⟨vx_Zq.moved hW.alike h1, vx_Zq.moved hW.alike h2, fun w hw => ?_, fun q hq => ?_, h5.moved hW.alike⟩
  · have h9 := h3 w hw
    simp only [tbBad, List.mem_cons, List.not_mem_nil, or_false] at hw
    rcases hw with rfl | rfl | rfl | rfl | rfl | rfl
    · exact va_Nw.warmC hW h9
    · exact va_Nw.warmC hW h9
    · exact va_Nw.warmC hW h9
    · exact va_Nw.warmD hW h9
    · exact va_Nw.warmD hW h9
    · exact va_Nw.warmD hW h9
  · obtain ⟨sa, h9⟩ := h4 q hq
    exact ⟨sa, vk_R.warm hW h9⟩
theorem tbZ.same {A : Nat → Prop} {u U : State} {H : Heap} (hv : u.vm = U.vm) (h : tbZ A u H) : tbZ A U H := by
  obtain ⟨h1, h2, h3, h4, h5⟩ := h
  have ha : u.vm.Alike U.vm := by rw [hv]; exact Vm.Alike.refl U.vm
  refine ⟨vx_Zq.moved ha h1, vx_Zq.moved ha h2, fun w hw => va_Nw.same (tbBad_on w hw) hv (h3 w hw), fun q hq => ?_, h5.moved ha⟩
  obtain ⟨sa, h9⟩ := h4 q hq
  exact ⟨sa, vk_R.same hv.symm h9⟩
theorem tbZ.kept {A : Nat → Prop} {U : State} {H H1 : Heap} (h : tbZ A U H) (hq : ∀ a : Nat, a < H.size → ¬ A a → H1[a]? = H[a]?) : tbZ A U H1 := ⟨h.1.kept hq, h.2.1.kept hq, h.2.2⟩
theorem tbZ.narrow {A B : Nat → Prop} {U : State} {H : Heap} (h : tbZ A U H) (hAB : ∀ q, B q → A q) : tbZ B U H := ⟨h.1.narrow hAB, h.2.1.narrow hAB, h.2.2⟩
/-- a start that asks for cells that are apart and for the words of a throw -/
def zz_P (D : va_G) (cl : List vw_C) (ws : va_W) (tys : List (ClassId × FieldType)) (sz : Nat) (U : State) : Prop := mu_P D cl ws tys sz U ∧ tbZ (va_A ws sz) U U.heap
theorem zz_P.blind {D : va_G} {cl : List vw_C} {ws : va_W} {tys : List (ClassId × FieldType)} {sz : Nat} {av : List Value} : FrameBlind (va_Pc av (zz_P D cl ws tys sz)) := fun a U g mk q => by
  obtain ⟨q0, ⟨q1, qP, qK, qD⟩, qZ⟩ := q
  exact ⟨q0, ⟨q1, qP, va_K.moved (u := U) (U := U.calling g mk a) (Vm.Alike.refl U.vm) qK, qD⟩, tbZ.same (u := U) (U := U.calling g mk a) rfl qZ⟩
theorem zz_P.at {D : va_G} {cl : List vw_C} {ws : va_W} {tys : List (ClassId × FieldType)} {H : Heap} {s : State} {A A' : Nat → Prop} (hP : va_P D cl ws H) (hK : va_K D cl tys s) (hD : va_D A' ws) (hZ : tbZ A s H) (hF : ∀ q, va_A ws H.size q → A q) {av : List Value} : ∀ U : State, U.heap = H → s.WarmedH U.vm → va_Pc av (zz_P D cl ws tys H.size) av.toArray U :=
  fun U hU hW => ⟨rfl, ⟨by rw [hU], by rw [hU]; exact hP, va_K.moved hW.alike hK, hD.weaken (fun _ _ _ _ => trivial)⟩, by rw [hU]; exact (hZ.narrow hF).warm hW⟩
theorem th_F {A : Nat → Prop} {s t : State} {H : Heap} {locs : List Loc} (hS : va_S A s.heap H locs) (hz : H.size ≤ t.heap.size) (hk : ∀ q : Nat, q < H.size → t.heap[q]? = H[q]?) : va_F A s t :=
  ⟨Nat.le_trans hS.1 hz, fun q h1 h2 => (hk q (Nat.lt_of_lt_of_le h1 hS.1)).trans (hS.2.1 q h1 h2)⟩
def tb_exa (_ : Nat) : String := "java/lang/IllegalArgumentException"
def tb_exs (_ : Nat) : String := "java/lang/IllegalStateException"
def tb_exi (k : Nat) : String := if k = 1 then "java/lang/IndexOutOfBoundsException" else "java/lang/IllegalArgumentException"
theorem hx_Aa : ∀ w ∈ (vx_atS "TileBins" 25 "java/lang/IllegalArgumentException" ["java/lang/RuntimeException", "java/lang/Exception"]).filter goodWord, w ∈ gb := by decide +kernel
theorem hx_Ab : ∀ w ∈ (vx_atS "TileBins" 25 "java/lang/IllegalArgumentException" ["java/lang/RuntimeException", "java/lang/Exception"]).filter (fun w => !goodWord w), w ∈ tbBad := by decide +kernel
theorem hx_Ac : ∀ w ∈ Cond.classLink "TileBins" 21 "java/lang/IllegalArgumentException" :: Cond.initialized "java/lang/IllegalArgumentException" :: vx_atS "TileBins" 25 "java/lang/IllegalArgumentException" ["java/lang/RuntimeException", "java/lang/Exception"], vx_ot w = true := by decide +kernel
theorem hx_Sa : ∀ w ∈ (vx_atS "TileBins" 72 "java/lang/IllegalStateException" ["java/lang/RuntimeException", "java/lang/Exception"]).filter goodWord, w ∈ gb := by decide +kernel
theorem hx_Sb : ∀ w ∈ (vx_atS "TileBins" 72 "java/lang/IllegalStateException" ["java/lang/RuntimeException", "java/lang/Exception"]).filter (fun w => !goodWord w), w ∈ tbBad := by decide +kernel
theorem hx_Sc : ∀ w ∈ Cond.classLink "TileBins" 68 "java/lang/IllegalStateException" :: Cond.initialized "java/lang/IllegalStateException" :: vx_atS "TileBins" 72 "java/lang/IllegalStateException" ["java/lang/RuntimeException", "java/lang/Exception"], vx_ot w = true := by decide +kernel
theorem hx_Ia : ∀ w ∈ (vx_atS "TileBins" 103 "java/lang/IndexOutOfBoundsException" ["java/lang/RuntimeException", "java/lang/Exception"]).filter goodWord, w ∈ gb := by decide +kernel
theorem hx_Ib : ∀ w ∈ (vx_atS "TileBins" 103 "java/lang/IndexOutOfBoundsException" ["java/lang/RuntimeException", "java/lang/Exception"]).filter (fun w => !goodWord w), w ∈ tbBad := by decide +kernel
theorem hx_Ic : ∀ w ∈ Cond.classLink "TileBins" 99 "java/lang/IndexOutOfBoundsException" :: Cond.initialized "java/lang/IndexOutOfBoundsException" :: vx_atS "TileBins" 103 "java/lang/IndexOutOfBoundsException" ["java/lang/RuntimeException", "java/lang/Exception"], vx_ot w = true := by decide +kernel

/-! the class TileBins: its state as numbers, and the cells that hold it -/
abbrev TBA : Type := Int32 × Int32 × Int32 × Int32 × Int32 × Int32 × Int32 × Int32 × Int32 × Int32 × Nat × (Nat → Int32)
abbrev tbAt (D : va_G) (A : Nat → Prop) (h0 : Nat) (u : TBA) (t : State) : Prop := match u with
  | (fw, fh, fs, fc, fl, fe, fi, ft, fo, fa, an, af) => ∃ (q1 : Nat) (cA : ClassId), va_P D vwCl [(h0, .inr (0, [.int fw, .int fh, .int fs, .int fc, .int fl, .int fe, .ref q1, .int fi, .int ft, .int fo, .int fa])), (q1, .inl (cA, an, .inl af))] t.heap ∧ va_K D vwCl [(cA, .int)] t ∧ va_D A [(h0, .inr (0, [.int fw, .int fh, .int fs, .int fc, .int fl, .int fe, .ref q1, .int fi, .int ft, .int fo, .int fa])), (q1, .inl (cA, an, .inl af))]
