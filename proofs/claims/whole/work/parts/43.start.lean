set_option maxHeartbeats 4000000 in
set_option maxRecDepth 100000 in
/-- the words of a throw, at the law's entry -/
theorem start_Z {p : Program} {s : State} {m : MethodId} {meth : Method} {c : Code} {b L : Nat} {xs : Nat → Int32} (C0 : lw_At p s m meth c b L xs) : tbZ (fun q : Nat => s.heap.size ≤ q) s s.heap := by
  obtain ⟨hx, hb, hr, hml, hown, hts, hX, hbl, hlocks, hgv⟩ := C0
  have hg := flat_of_before _ hgv
  have hA : ∀ a : Nat, a < s.heap.size → ¬ (fun q : Nat => s.heap.size ≤ q) a := fun a h => Nat.not_le.mpr h
  refine ⟨vx_Zqof (hts (.laysStatic Bundle.tN "UNASSIGNED_STACK" Bundle.steD) (by decide +kernel)) (hts (.initialized Bundle.tN) (by decide +kernel)) (hg (.isRef (.static Bundle.tN "UNASSIGNED_STACK" Bundle.steD)) (by decide +kernel)) hA, vx_Zqof (hts (.laysStatic Bundle.tN "SUPPRESSED_SENTINEL" Bundle.listD) (by decide +kernel)) (hts (.initialized Bundle.tN) (by decide +kernel)) (hg (.isRef (.static Bundle.tN "SUPPRESSED_SENTINEL" Bundle.listD)) (by decide +kernel)) hA, fun w hw => va_Nw.of (tbBad_on w hw) (hts w ((by decide +kernel : ∀ w ∈ tbBad, w ∈ lw_tbl) w hw)), fun q hq => ?_, va_Nc.of (hg (.not (.castable "java/lang/IllegalArgumentException" "java/lang/IndexOutOfBoundsException")) (by decide +kernel))⟩
  have h1 := hts (.stringRef "TileBins" q.1 q.2) ((by decide +kernel : ∀ q ∈ tbStr, Cond.stringRef "TileBins" q.1 q.2 ∈ lw_tbl) q hq)
  have h2 := hg (.exactly (.string "TileBins" q.1) "java/lang/String") ((by decide +kernel : ∀ q ∈ tbStr, Cond.exactly (.string "TileBins" q.1) "java/lang/String" ∈ flatC (Jvm.Cond.and given_1 narrow_1)) q hq)
  obtain ⟨a, _, _, _, h3, -⟩ := Cond.exactly_spec h2
  exact ⟨a, vk_R.of h1 h3⟩
set_option maxHeartbeats 4000000 in
set_option maxRecDepth 100000 in
/-- THE LAW, from its entry -/
theorem whole_start {p : Program} {e : Env} {s : State} {m : MethodId} {below : List Frame} {meth : Method} {c : Code} (l : Launch) (hl9 : l.stackTraces = false) {b L : Nat} {xs : Nat → Int32} (hL : L ≤ 3072) (C0 : lw_At p s m meth c b L xs) : W p l e room_1 s m #[Value.ref b] below meth c s.heap [] 0 0 (lw_Z below #[Value.ref b] s) (entryFrame m ([Value.ref b] : List Value).toArray 7) := by
  have hZ := start_Z C0
  obtain ⟨hx, hb, hr, hml, hown, hts0, hX, hbl, hlocks, hgv⟩ := id C0
  have hts : ∀ w ∈ gb, w.before #[Value.ref b] s = true := fun w h => hts0 w (gb_in w h).1
  have hA : ∀ q : Nat, s.heap.size ≤ q → (fun q : Nat => s.heap.size ≤ q) q := fun _ h => h
  obtain ⟨c0, iS0, hKn0⟩ := u_known (C := "TileBins") (T := TX0) (N := 11) (n := 11) hts inX0 (hts _ kw_34)
  obtain ⟨c1, iS1, hKn1⟩ := u_known (C := "TileBinsModel") (T := TX1) (N := 14) (n := 14) hts inX1 (hts _ kw_322)
  obtain ⟨dC, dI, hKc⟩ : ∃ (dC : Nat → ClassId) (dI : Nat → Nat → Nat), ∀ (k : Nat) (q : vw_C), vwCl[k]? = some q → u_Kn s q.1 q.2.1 q.2.2 (dC k) (dI k) := by
    refine ⟨fun k => if k = 0 then c0 else c1, fun k => if k = 0 then iS0 else iS1, ?_⟩
    intro k q hq
    match k, hq with
    | 0, hq => cases hq; exact hKn0
    | 1, hq => cases hq; exact hKn1
    | k + 2, hq => simp [vwCl] at hq
  have hS : va_S (fun q : Nat => s.heap.size ≤ q) s.heap s.heap [] := va_S.rf
  have hK : va_K (dC, dI) vwCl [] s := ⟨hKc, fun k q h => by simp at h⟩
  have hP : va_P (dC, dI) vwCl [] s.heap := fun k q h => by simp at h
  have hD : va_D (fun q : Nat => s.heap.size ≤ q) [] := ⟨fun i j p q h => by simp at h, fun k q h => by simp at h⟩
  have hl := lv_entry ([.ref b]) (n := 7) (Nat.le_of_ble_eq_true rfl)
  rw [lg_entry_eq]
  generalize (lg_sl ([.ref b]) ++ List.replicate (7 - (lg_sl ([.ref b])).length) Slot.unset).toArray = ls at hl ⊢
  have hl : lv_has ls 7 [(0, .ref b)] := hl
  refine va_new (ci := 0) (fs := [.int 0, .int 0, .int 0, .int 0, .int 0, .int 0, .null, .int 0, .int 0, .int 0, .int 0]) (C := "TileBins") (T := TX0) (N := 11) hx hb hts inX0 tyX0 tyX0_ok hown (hts _ kw_33) (hts _ kw_34) (hts _ kw_22) hK hP hD hS hA rfl (by decide +kernel) (Nat.le_of_ble_eq_true rfl) (Nat.le_of_ble_eq_true rfl) dL_law_0 (fun h0 H hP hD hS => ?_)
  have hP : va_P (dC, dI) vwCl [(h0, .inr (0, [.int 0, .int 0, .int 0, .int 0, .int 0, .int 0, .null, .int 0, .int 0, .int 0, .int 0]))] H := hP
  have hD : va_D (fun q : Nat => s.heap.size ≤ q) [(h0, .inr (0, [.int 0, .int 0, .int 0, .int 0, .int 0, .int 0, .null, .int 0, .int 0, .int 0, .int 0]))] := hD
  refine W.widen (k := 1) (n := 11) (by omega) (by omega) ?_
  refine lv_dup hx hb dL_law_3 rfl ?_
  have hFc := va_free (wc := [(h0, .inr (0, [.int 0, .int 0, .int 0, .int 0, .int 0, .int 0, .null, .int 0, .int 0, .int 0, .int 0]))]) hD hS hA [0] rfl
  refine va_callv (va_runI (As := []) (rest := [.ref h0]) ⟨hx, hb, hml, hown, hts⟩ (mtX0_init l dC dI h0 H.size) (cwI 0 hts (gb_c kw_37) rfl rfl rfl (hts _ kw_22) (hts _ kw_35) (hts _ kw_36) rfl (by decide +kernel) ⟨Nat.le_of_ble_eq_true rfl, Nat.le_of_ble_eq_true rfl⟩) ⟨mu_P.blind, mu_P.at hP hK hD⟩ rfl rfl hl.1 rfl (lv_room (Nat.le_of_ble_eq_true rfl)) dL_law_4 ⟨Nat.le_of_ble_eq_true rfl, Nat.le_of_ble_eq_true rfl⟩) hS (fun q _ h => hFc q h) hFc (fun u t H1 locs ht hvm hw hB hz1 hk1 hS => ?_)
  have hw : u = tb_new := hw
  subst hw
  obtain ⟨q1, cA, hP1, hK1, hD1⟩ := hB
  rw [ht] at hP1
  have hK1 := va_K.moved hvm.symm hK1
  obtain ⟨hP, hD⟩ := va_join (wr := []) (w1 := [(h0, .inr (0, [.int 1, .int 1, .int 3, .int (tb_across 3 0 1), .int (tb_across 3 0 1), .int 64, .ref q1, .int 0, .int 0, .int (-1), .int 0])), (q1, .inl (cA, 96, .inl (fun _ => 0)))]) hP hD [0] [] rfl rfl (by decide) (by decide) hk1 hFc hP1 hD1
  have hK := hK1
  generalize H1 = H at hP hS ⊢
  have hP : va_P (dC, dI) vwCl [(h0, .inr (0, [.int 1, .int 1, .int 3, .int (tb_across 3 0 1), .int (tb_across 3 0 1), .int 64, .ref q1, .int 0, .int 0, .int (-1), .int 0])), (q1, .inl (cA, 96, .inl (fun _ => 0)))] H := hP
  have hD : va_D (fun q : Nat => s.heap.size ≤ q) [(h0, .inr (0, [.int 1, .int 1, .int 3, .int (tb_across 3 0 1), .int (tb_across 3 0 1), .int 64, .ref q1, .int 0, .int 0, .int (-1), .int 0])), (q1, .inl (cA, 96, .inl (fun _ => 0)))] := hD
  have hK : va_K (dC, dI) vwCl [(cA, .int)] s := hK
  refine W.widen (k := 2) (n := 107) (by omega) (by omega) ?_
  refine lv_astore_n (lv' := [(1, .ref h0), (0, .ref b)]) hx hb dL_law_7 rfl hl (by decide) rfl (fun ls hl => ?_)
  refine va_new (ci := 1) (fs := [.int 0, .int 0, .int 0, .int 0, .int 0, .int 0, .int 0, .null, .null, .null, .null, .null, .int 0, .int 0]) (C := "TileBinsModel") (T := TX1) (N := 14) hx hb hts inX1 tyX1 tyX1_ok hown (hts _ kw_321) (hts _ kw_322) (hts _ kw_23) hK hP hD hS hA rfl (by decide +kernel) (Nat.le_of_ble_eq_true rfl) (Nat.le_of_ble_eq_true rfl) dL_law_8 (fun g0 H hP hD hS => ?_)
  have hP : va_P (dC, dI) vwCl ([(h0, .inr (0, [.int 1, .int 1, .int 3, .int (tb_across 3 0 1), .int (tb_across 3 0 1), .int 64, .ref q1, .int 0, .int 0, .int (-1), .int 0])), (q1, .inl (cA, 96, .inl (fun _ => 0)))] ++ [(g0, .inr (1, [.int 0, .int 0, .int 0, .int 0, .int 0, .int 0, .int 0, .null, .null, .null, .null, .null, .int 0, .int 0]))]) H := hP
  have hD : va_D (fun q : Nat => s.heap.size ≤ q) ([(h0, .inr (0, [.int 1, .int 1, .int 3, .int (tb_across 3 0 1), .int (tb_across 3 0 1), .int 64, .ref q1, .int 0, .int 0, .int (-1), .int 0])), (q1, .inl (cA, 96, .inl (fun _ => 0)))] ++ [(g0, .inr (1, [.int 0, .int 0, .int 0, .int 0, .int 0, .int 0, .int 0, .null, .null, .null, .null, .null, .int 0, .int 0]))]) := hD
  refine W.widen (k := 3) (n := 121) (by omega) (by omega) ?_
  refine lv_dup hx hb dL_law_11 rfl ?_
  have hPc := hP.sub (ws' := [(g0, .inr (1, [.int 0, .int 0, .int 0, .int 0, .int 0, .int 0, .int 0, .null, .null, .null, .null, .null, .int 0, .int 0]))]) [2] rfl
  have hDc := hD.sub (ws' := [(g0, .inr (1, [.int 0, .int 0, .int 0, .int 0, .int 0, .int 0, .int 0, .null, .null, .null, .null, .null, .int 0, .int 0]))]) [2] (by decide) rfl
  have hKc := hK.sub (tys' := []) [] rfl
  have hFc := va_free (wc := [(g0, .inr (1, [.int 0, .int 0, .int 0, .int 0, .int 0, .int 0, .int 0, .null, .null, .null, .null, .null, .int 0, .int 0]))]) hD hS hA [2] rfl
  refine va_callv (va_runI (As := []) (rest := [.ref g0]) ⟨hx, hb, hml, hown, hts⟩ (mtX1_init l dC dI g0 H.size) (cwI 0 hts (gb_c kw_325) rfl rfl rfl (hts _ kw_23) (hts _ kw_323) (hts _ kw_324) rfl (by decide +kernel) ⟨Nat.le_of_ble_eq_true rfl, Nat.le_of_ble_eq_true rfl⟩) ⟨mu_P.blind, mu_P.at hPc hKc hDc⟩ rfl rfl hl.1 rfl (lv_room (Nat.le_of_ble_eq_true rfl)) dL_law_12 ⟨Nat.le_of_ble_eq_true rfl, Nat.le_of_ble_eq_true rfl⟩) hS (fun q _ h => hFc q h) hFc (fun u t H1 locs ht hvm hw hB hz1 hk1 hS => ?_)
  have hw : u = md_new := hw
  subst hw
  obtain ⟨r1, r2, r3, r4, r5, cB1, cB2, cB3, cB4, cB5, hP1, hK1, hD1⟩ := hB
  rw [ht] at hP1
  have hK1 := va_K.moved hvm.symm hK1
  obtain ⟨hP, hD⟩ := va_join (wr := [(h0, .inr (0, [.int 1, .int 1, .int 3, .int (tb_across 3 0 1), .int (tb_across 3 0 1), .int 64, .ref q1, .int 0, .int 0, .int (-1), .int 0])), (q1, .inl (cA, 96, .inl (fun _ => 0)))]) (w1 := [(g0, .inr (1, [.int 0, .int 1, .int 1, .int 8, .int 64, .int 0, .int 0, .ref r1, .ref r2, .ref r3, .ref r4, .ref r5, .int (-1), .int 0])), (r1, .inl (cB1, 4096, .inl (fun _ => 0))), (r2, .inl (cB2, 4096, .inl (fun _ => 0))), (r3, .inl (cB3, 4096, .inl (fun _ => 0))), (r4, .inl (cB4, 4096, .inl (fun _ => 0))), (r5, .inl (cB5, 4096, .inl (fun _ => 0)))]) hP hD [2] [0, 1] rfl rfl (by decide) (by decide) hk1 hFc hP1 hD1
  have hK := hK.app hK1
  generalize H1 = H at hP hS ⊢
  have hP : va_P (dC, dI) vwCl ([(h0, .inr (0, [.int 1, .int 1, .int 3, .int (tb_across 3 0 1), .int (tb_across 3 0 1), .int 64, .ref q1, .int 0, .int 0, .int (-1), .int 0])), (q1, .inl (cA, 96, .inl (fun _ => 0)))] ++ [(g0, .inr (1, [.int 0, .int 1, .int 1, .int 8, .int 64, .int 0, .int 0, .ref r1, .ref r2, .ref r3, .ref r4, .ref r5, .int (-1), .int 0])), (r1, .inl (cB1, 4096, .inl (fun _ => 0))), (r2, .inl (cB2, 4096, .inl (fun _ => 0))), (r3, .inl (cB3, 4096, .inl (fun _ => 0))), (r4, .inl (cB4, 4096, .inl (fun _ => 0))), (r5, .inl (cB5, 4096, .inl (fun _ => 0)))]) H := hP
  have hD : va_D (fun q : Nat => s.heap.size ≤ q) ([(h0, .inr (0, [.int 1, .int 1, .int 3, .int (tb_across 3 0 1), .int (tb_across 3 0 1), .int 64, .ref q1, .int 0, .int 0, .int (-1), .int 0])), (q1, .inl (cA, 96, .inl (fun _ => 0)))] ++ [(g0, .inr (1, [.int 0, .int 1, .int 1, .int 8, .int 64, .int 0, .int 0, .ref r1, .ref r2, .ref r3, .ref r4, .ref r5, .int (-1), .int 0])), (r1, .inl (cB1, 4096, .inl (fun _ => 0))), (r2, .inl (cB2, 4096, .inl (fun _ => 0))), (r3, .inl (cB3, 4096, .inl (fun _ => 0))), (r4, .inl (cB4, 4096, .inl (fun _ => 0))), (r5, .inl (cB5, 4096, .inl (fun _ => 0)))]) := hD
  have hK : va_K (dC, dI) vwCl [(cA, .int), (cB1, .int), (cB2, .int), (cB3, .int), (cB4, .int), (cB5, .int)] s := hK
  refine W.widen (k := 8) (n := 20601) (by omega) (by omega) ?_
  refine lv_astore_n (lv' := [(2, .ref g0), (1, .ref h0), (0, .ref b)]) hx hb dL_law_15 rfl hl (by decide) rfl (fun ls hl => ?_)
  refine lv_iconst (v := 1) hx hb dL_law_16 (by decide) ?_
  refine va_newa (atype := .long) (ty := .long) (a0 := (1, .inr (.inl (fun _ => 0)))) (N' := 1) hx hb (hts _ kw_454) rfl hK hP hD hS hA (fun _ => rfl) (by decide) (by decide) (by decide) (Nat.le_of_ble_eq_true rfl) (Nat.le_of_ble_eq_true rfl) dL_law_17 (fun q2 cJ H hK hP hD hS => ?_)
  have hP : va_P (dC, dI) vwCl ([(h0, .inr (0, [.int 1, .int 1, .int 3, .int (tb_across 3 0 1), .int (tb_across 3 0 1), .int 64, .ref q1, .int 0, .int 0, .int (-1), .int 0])), (q1, .inl (cA, 96, .inl (fun _ => 0)))] ++ [(g0, .inr (1, [.int 0, .int 1, .int 1, .int 8, .int 64, .int 0, .int 0, .ref r1, .ref r2, .ref r3, .ref r4, .ref r5, .int (-1), .int 0])), (r1, .inl (cB1, 4096, .inl (fun _ => 0))), (r2, .inl (cB2, 4096, .inl (fun _ => 0))), (r3, .inl (cB3, 4096, .inl (fun _ => 0))), (r4, .inl (cB4, 4096, .inl (fun _ => 0))), (r5, .inl (cB5, 4096, .inl (fun _ => 0)))] ++ [(q2, .inl (cJ, 1, .inr (.inl (fun _ => 0))))]) H := hP
  have hD : va_D (fun q : Nat => s.heap.size ≤ q) ([(h0, .inr (0, [.int 1, .int 1, .int 3, .int (tb_across 3 0 1), .int (tb_across 3 0 1), .int 64, .ref q1, .int 0, .int 0, .int (-1), .int 0])), (q1, .inl (cA, 96, .inl (fun _ => 0)))] ++ [(g0, .inr (1, [.int 0, .int 1, .int 1, .int 8, .int 64, .int 0, .int 0, .ref r1, .ref r2, .ref r3, .ref r4, .ref r5, .int (-1), .int 0])), (r1, .inl (cB1, 4096, .inl (fun _ => 0))), (r2, .inl (cB2, 4096, .inl (fun _ => 0))), (r3, .inl (cB3, 4096, .inl (fun _ => 0))), (r4, .inl (cB4, 4096, .inl (fun _ => 0))), (r5, .inl (cB5, 4096, .inl (fun _ => 0)))] ++ [(q2, .inl (cJ, 1, .inr (.inl (fun _ => 0))))]) := hD
  have hK : va_K (dC, dI) vwCl [(cA, .int), (cB1, .int), (cB2, .int), (cB3, .int), (cB4, .int), (cB5, .int), (cJ, .long)] s := hK
  refine W.widen (k := 600 - 512) (n := 3200000 - 6144 * 512) (by omega) (by omega) ?_
  refine lv_astore_n (lv' := [(3, .ref q2), (2, .ref g0), (1, .ref h0), (0, .ref b)]) hx hb dL_law_19 rfl hl (by decide) rfl (fun ls hl => ?_)
  refine lv_iconst (v := 0) hx hb dL_law_20 (by decide) ?_
  refine lv_istore (lv' := [(4, .int 0), (3, .ref q2), (2, .ref g0), (1, .ref h0), (0, .ref b)]) hx hb dL_law_21 hl (by decide) rfl (fun ls hl => ?_)
  refine law_loop hl9 hL C0 hZ 512 (dC := dC) (dI := dI) ?_
  refine ⟨0, h0, q1, q2, g0, r1, r2, r3, r4, r5, cA, cJ, cB1, cB2, cB3, cB4, cB5, 1, 1, 3, (tb_across 3 0 1), (tb_across 3 0 1), 64, 0, 0, (-1), 0, 96, (fun _ => 0), (fun _ => 0), 0, 1, 1, 8, 64, 0, 0, (-1), 0, (fun _ => 0), (fun _ => 0), (fun _ => 0), (fun _ => 0), (fun _ => 0), rfl, st_new, hP.sub [0, 1, 8, 2, 3, 4, 5, 6, 7] rfl, hK.sub [0, 6, 1, 2, 3, 4, 5] rfl, hD.sub [0, 1, 8, 2, 3, 4, 5, 6, 7] (by decide) rfl, hS, ?_⟩
  have h0' : nI (6 * 0) = 0 := by decide
  rw [h0']
  exact hl
