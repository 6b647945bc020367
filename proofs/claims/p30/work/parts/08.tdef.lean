/-! ===== the calls: T d y: method y, called with no more than d calls open, ends with Q ===== -/
def T : Nat → AC
  | 0 => fun _ _ _ _ _ => False
  | d + 1 => fun y as h N Q => (aArgs as).length ≤ mL y ∧ Run (mI y) (T d) Q 0 (aEnt (mL y) as) [] h N 0 0
/-- the code's word -/
def mW (y : Nat) : Jvm.Cond := match mH y with
  | [] => .code (mN y) (mB y) (mL y) (mR y)
  | hh => .codeWith (mN y) (mB y) (mL y) (mR y) hh
def mWs (y : Nat) : List Jvm.Cond := mW y :: wG
def rmT (d y : Nat) : Room := { frames := d + 8, cells := (mI y).mc, slots := (mI y).ms, locals := 100 + 40 * d }
