/-! THE CLAIM OUT OF ONE WALK OF THE LAW'S BODY. Your part is whole_start (and what it stands on); all else here is the same for every law, but numbers. -/
abbrev R_law : String := "TileBinsLaw"
def lw_P (b : Addr) (xs : List Int32) (args : Array Value) (s : State) : Prop := args = #[.ref b] ∧ s.IntsAt b xs ∧ xs.length ≤ 3072 ∧ (Jvm.Cond.and given_1 narrow_1).before args s = true
def lw_Q (_ : Array Value) (s : State) (o : Outcome) (t : State) : Prop := o = .returned (some (.int 1)) ∧ Framed s o t [] 601024 7293034
def lw_Z (below : List Frame) (a : Array Value) (s : State) : State → Prop := fun t => ∃ o, t.status = .running ∧ Ended t below o ∧ lw_Q a s o t
/-- the law's own end, with 1 on the stack, nothing written that was there before, its room as the claim has it -/
theorem lw_ret {p : Program} {l : Launch} {e : Env} {s : State} {m : MethodId} {below : List Frame} {meth : Method} {c : Code} {b : Nat} (hx : p.tables.exec = Jvm.exec) (hb : c.code = code) (hr : meth.sig.returnType = ret) (hlocks : meth.locks = false) {pc : Nat} {H : Heap} {ls : Array Slot} (hdg : decode code pc = .ok (.ireturn, 1)) : W p l e room_1 s m #[Value.ref b] below meth c H [] 601024 7293034 (lw_Z below #[Value.ref b] s) (F0 m pc ls [.int 1]) := by
  intro T hT X
  obtain ⟨fs, hret, hrun, hended, hW, hframe⟩ := X.leave (v := some (.int 1)) (hlocks := hlocks) (fun h => by rw [hr] at h; cases h)
  have hmeth' : T.vm.method? m = some meth := X.method'
  refine ⟨T.setFrames fs, ?_, .returned (some (.int 1)), hrun, hended, rfl, ⟨_, rfl⟩, hW, hframe⟩
  jvm_step X.here [X.here.top, hx, hb, hdg, hmeth', hr, ret, narrow_b1]
  (try refine ⟨rfl, ?_⟩); (try refine ⟨rfl, ?_⟩)
  first | (intro acts; rw [hret _ acts rfl rfl rfl]) | rw [hret _ _ rfl rfl rfl]
  exact Steps.refl _
/-- what holds at the law's entry: the machine, the code, the tables' words (any of lw_tbl by 'hts w (by decide +kernel)'), the script of L ints xs at the cell b, what the Statement gives of the start (any of its parts by flat_of_before) -/
def lw_At (p : Program) (s : State) (m : MethodId) (meth : Method) (c : Code) (b L : Nat) (xs : Nat → Int32) : Prop :=
  p.tables.exec = Jvm.exec ∧ c.code = code ∧ meth.sig.returnType = ret ∧ c.maxLocals = 7 ∧ s.vm.findClass R_law = some m.cls ∧ (∀ w ∈ lw_tbl, w.before #[Value.ref b] s = true) ∧ va_X b L xs s s.heap ∧ b < s.heap.size ∧ meth.locks = false ∧ (Jvm.Cond.and given_1 narrow_1).before #[Value.ref b] s = true

theorem loopC {p : Program} {l : Launch} {e : Env} {R : Room} {s : State} {m : MethodId} {args : Array Value} {below : List Frame} {meth : Method} {c : Code} {Q : State → Prop} {pc : Nat} (cf sf : Nat → Nat)
    (I : Nat → Heap → List Loc → Array Slot → Prop)
    (hs : ∀ (d : Nat) (H : Heap) (locs : List Loc) (ls : Array Slot), I d H locs ls → (∀ (d' : Nat) (H' : Heap) (locs' : List Loc) (ls' : Array Slot), d' < d → I d' H' locs' ls' → W p l e R s m args below meth c H' locs' (cf d') (sf d') Q (F0 m pc ls' [])) → W p l e R s m args below meth c H locs (cf d) (sf d) Q (F0 m pc ls []))
    (d : Nat) {H : Heap} {locs : List Loc} {ls : Array Slot} (h : I d H locs ls) : W p l e R s m args below meth c H locs (cf d) (sf d) Q (F0 m pc ls []) := by
  have key : ∀ (n d : Nat), d < n → ∀ (H : Heap) (locs : List Loc) (ls : Array Slot), I d H locs ls → W p l e R s m args below meth c H locs (cf d) (sf d) Q (F0 m pc ls []) := by
    intro n
    induction n with
    | zero => intro d h; exact absurd h (Nat.not_lt_zero d)
    | succ n ih =>
      intro d hd H locs ls hI
      exact hs d H locs ls hI (fun d' H' locs' ls' h' hI' => ih d' (by omega) H' locs' ls' hI')
  exact key (d + 1) d (Nat.lt_succ_self d) H locs ls h
theorem lw_go {L n : Nat} (hL : L ≤ 3072) (hn : n ≤ 512) (c : ¬ (Int32.ofNat L - 6) < nI (6 * n)) : 6 * n + 6 ≤ L := by
  rw [Int32.lt_iff_toInt_lt, show Int32.ofNat L - 6 = nI L - nI 6 from rfl, pk_sub_toInt (by omega) (by omega), nI_toInt (by omega)] at c
  omega
theorem lw_ix {L n k : Nat} {K : Int32} (hK : K = nI k) (hk : k < 6) (hL : L ≤ 3072) (h : 6 * n + 6 ≤ L) : vp_in (nI (6 * n) + K) L := by
  rw [hK, nI_add]
  exact vp_in_nI (by omega) (by omega)
theorem lw_ix0 {L n : Nat} (hL : L ≤ 3072) (h : 6 * n + 6 ≤ L) : vp_in (nI (6 * n)) L := vp_in_nI (by omega) (by omega)
def lawI (dC : Nat → ClassId) (dI : Nat → Nat → Nat) (s : State) (b d : Nat) (H : Heap) (locs : List Loc) (ls : Array Slot) : Prop := ∃ (n : Nat) (h0 q1 q2 g0 r1 r2 r3 r4 r5 : Nat) (cA cJ cB1 cB2 cB3 cB4 cB5 : ClassId) (fw fh fs fc fl fe fi ft fo fa : Int32) (an : Nat) (af : Nat → Int32) (ol : Nat → Int64) (gt gw gh gs ge gi gk go ga : Int32) (f1 f2 f3 f4 f5 : Nat → Int32), n + d = 512 ∧ Inv n (fw, fh, fs, fc, fl, fe, fi, ft, fo, fa, an, af) (gt, gw, gh, gs, ge, gi, gk, go, ga, f1, f2, f3, f4, f5) ∧ va_P (dC, dI) vwCl [(h0, .inr (0, [.int fw, .int fh, .int fs, .int fc, .int fl, .int fe, .ref q1, .int fi, .int ft, .int fo, .int fa])), (q1, .inl (cA, an, .inl af)), (q2, .inl (cJ, 1, .inr (.inl ol))), (g0, .inr (1, [.int gt, .int gw, .int gh, .int gs, .int ge, .int gi, .int gk, .ref r1, .ref r2, .ref r3, .ref r4, .ref r5, .int go, .int ga])), (r1, .inl (cB1, 4096, .inl f1)), (r2, .inl (cB2, 4096, .inl f2)), (r3, .inl (cB3, 4096, .inl f3)), (r4, .inl (cB4, 4096, .inl f4)), (r5, .inl (cB5, 4096, .inl f5))] H ∧ va_K (dC, dI) vwCl [(cA, .int), (cJ, .long), (cB1, .int), (cB2, .int), (cB3, .int), (cB4, .int), (cB5, .int)] s ∧ va_D (fun q : Nat => s.heap.size ≤ q) [(h0, .inr (0, [.int fw, .int fh, .int fs, .int fc, .int fl, .int fe, .ref q1, .int fi, .int ft, .int fo, .int fa])), (q1, .inl (cA, an, .inl af)), (q2, .inl (cJ, 1, .inr (.inl ol))), (g0, .inr (1, [.int gt, .int gw, .int gh, .int gs, .int ge, .int gi, .int gk, .ref r1, .ref r2, .ref r3, .ref r4, .ref r5, .int go, .int ga])), (r1, .inl (cB1, 4096, .inl f1)), (r2, .inl (cB2, 4096, .inl f2)), (r3, .inl (cB3, 4096, .inl f3)), (r4, .inl (cB4, 4096, .inl f4)), (r5, .inl (cB5, 4096, .inl f5))] ∧ va_S (fun q : Nat => s.heap.size ≤ q) s.heap H locs ∧ lv_has ls 7 [(4, .int (nI (6 * n))), (3, .ref q2), (2, .ref g0), (1, .ref h0), (0, .ref b)]
