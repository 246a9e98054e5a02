/-! the relation of the two states -/
/-- how many tiles an item touches -/
def rl_cnt (k x0 y0 x1 y1 : Nat) : Nat := if x0 < x1 then ((x1 - 1) / 2 ^ k - x0 / 2 ^ k + 1) * ((y1 - 1) / 2 ^ k - y0 / 2 ^ k + 1) else 0
/-- an item of both -/
def rl_item (w h k : Nat) (af f1 f2 f3 f4 f5 : Nat → Int32) (j : Nat) : Prop := ∃ x0 y0 x1 y1 : Nat, ((x0 < x1 ∧ x1 ≤ w ∧ y0 < y1 ∧ y1 ≤ h) ∨ (x0 = 0 ∧ x1 = 0 ∧ y0 = 0 ∧ y1 = 0)) ∧
  af (j * 6 + 0) = nI x0 ∧ af (j * 6 + 1) = nI y0 ∧ af (j * 6 + 2) = nI x1 ∧ af (j * 6 + 3) = nI y1 ∧ af (j * 6 + 4) = f5 j ∧ af (j * 6 + 5) = nI (rl_cnt k x0 y0 x1 y1) ∧ f1 j = nI x0 ∧ f2 j = nI y0 ∧ f3 j = nI x1 ∧ f4 j = nI y1
def rl_co (w k : Nat) : Nat := (w - 1) / 2 ^ k + 1
/-- the numbers of both -/
def rl_num (n w h k cc N T : Nat) (fw fh fs fc fl fe fi ft : Int32) (an : Nat) (gw gh gs ge gi gk : Int32) : Prop :=
  (1 ≤ w ∧ w ≤ 1024) ∧ (1 ≤ h ∧ h ≤ 1024) ∧ (3 ≤ k ∧ k ≤ 6) ∧ (1 ≤ cc ∧ cc ≤ 8192) ∧ (N ≤ n ∧ n ≤ 512 ∧ T ≤ cc) ∧
  (fw = nI w ∧ fh = nI h ∧ fs = nI k ∧ fc = nI (rl_co w k) ∧ fl = nI (rl_co h k) ∧ fe = nI cc ∧ fi = nI N ∧ ft = nI T) ∧ (gw = nI w ∧ gh = nI h ∧ gs = nI (2 ^ k) ∧ ge = nI cc ∧ gi = nI N ∧ gk = nI T) ∧ ((∃ j : Nat, j ≤ 5 ∧ an = 96 * 2 ^ j) ∧ N * 6 ≤ an)
/-- what is opened in both -/
def rl_op (w h k N : Nat) (fo fa go ga : Int32) : Prop := go = fo ∧ (fo = -1 ∨ ∃ o : Nat, o < rl_co w k * rl_co h k ∧ fo = nI o ∧ fa = ga) ∧ ∃ a : Nat, a ≤ N ∧ fa = nI a
def Inv (n : Nat) (st : TBA) (sm : MDA) : Prop := match st, sm with
  | (fw, fh, fs, fc, fl, fe, fi, ft, fo, fa, an, af), (gt, gw, gh, gs, ge, gi, gk, go, ga, f1, f2, f3, f4, f5) => ∃ w h k cc N T : Nat, rl_num n w h k cc N T fw fh fs fc fl fe fi ft an gw gh gs ge gi gk ∧ rl_op w h k N fo fa go ga ∧ ∀ j : Nat, j < N → rl_item w h k af f1 f2 f3 f4 f5 j
