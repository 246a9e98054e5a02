/-! loops, places in arrays, ends of counters -/
/-- a loop by a measure: the invariant says all that the walk knows at the loop's head -/
theorem loopW {p : Program} {l : Launch} {e : Env} {R : Room} {s : State} {m : MethodId} {args : Array Value} {below : List Frame} {meth : Method} {c : Code} {cells slots : Nat} {Q : State → Prop} {pc : Nat}
    (I : Nat → Heap → List Loc → Array Slot → Prop)
    (hs : ∀ (d : Nat) (H : Heap) (locs : List Loc) (ls : Array Slot), I d H locs ls → (∀ (d' : Nat) (H' : Heap) (locs' : List Loc) (ls' : Array Slot), d' < d → I d' H' locs' ls' → W p l e R s m args below meth c H' locs' cells slots Q (F0 m pc ls' [])) → W p l e R s m args below meth c H locs cells slots Q (F0 m pc ls []))
    (d : Nat) {H : Heap} {locs : List Loc} {ls : Array Slot} (h : I d H locs ls) : W p l e R s m args below meth c H locs cells slots Q (F0 m pc ls []) := by
  have key : ∀ (n d : Nat), d < n → ∀ (H : Heap) (locs : List Loc) (ls : Array Slot), I d H locs ls → W p l e R s m args below meth c H locs cells slots Q (F0 m pc ls []) := by
    intro n
    induction n with
    | zero => intro d h; exact absurd h (Nat.not_lt_zero d)
    | succ n ih =>
      intro d hd H locs ls hI
      exact hs d H locs ls hI (fun d' H' locs' ls' h' hI' => ih d' (by omega) H' locs' ls' hI')
  exact key (d + 1) d (Nat.lt_succ_self d) H locs ls h
theorem lm_end {x : Int32} {j N : Nat} (hN : x = nI N) (h31 : N < 2 ^ 31) (hj : j ≤ N) (c : x ≤ nI j) : j = N := by
  rw [hN, nI_leI h31 (by omega)] at c
  omega
theorem lm_go {x : Int32} {j N : Nat} (hN : x = nI N) (h31 : N < 2 ^ 31) (hj : j ≤ N) (c : ¬ x ≤ nI j) : j < N := by
  rw [hN, nI_leI h31 (by omega)] at c
  omega
theorem lm_6 : (6 : Int32) = nI 6 := by decide
theorem lm_ix {a K : Int32} {j k an : Nat} (ha : a = nI j) (hK : K = nI k) (hk : k < 6) (h : j * 6 + 5 < an) (han : an < 2 ^ 31) : vp_in ((a * 6) + K) an := by
  rw [ha, hK, lm_6, pk_mul, nI_add]
  exact vp_in_nI (by omega) han
theorem lm_ixv {a K : Int32} {j k : Nat} (ha : a = nI j) (hK : K = nI k) (h : j * 6 + k < 2 ^ 31) : ((a * 6) + K).toNatClampNeg = j * 6 + k := by
  rw [ha, hK, lm_6, pk_mul, nI_add]
  exact nI_clamp h
