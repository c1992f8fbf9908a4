/-! ===== the start ===== -/
def ini1 : Option xR := yr 100000 1999 81 0 (xent [.inr (.inl (some 1))]) [] [(99, []), (9, xdf 9)]
def mN (a : Nat) : Bool := [7, 52, 55, 67, 76, 85, 96, 105, 114, 123, 132, 141].any (Nat.beq a)
def ex0 (a _k : Nat) : Int := bif mN a then -1 else 0
def cvB (sh a k : Nat) (v : xV) : Bool := match hKd (hTg a) k with
  | 0 => match v with
    | .inl x => decide (x = ex0 a k)
    | _ => false
  | 2 => match v with
    | .inr (.inl o) => decide (o = (hRf a k).map (fun x => x + sh))
    | _ => false
  | 4 => match v with
    | .inr (.inl (some s)) => Nat.beq s (93 + 9 * k + sh)
    | _ => false
  | 5 => match v with
    | .inl x => decide (x = hCs a)
    | _ => false
  | 6 => match v with
    | .inl x => decide (x = 0)
    | _ => false
  | _ => false
def csB (sh a : Nat) : List xV → Nat → Bool
  | [], 0 => true
  | [], _ + 1 => false
  | _ :: _, 0 => false
  | v :: vs, n + 1 => cvB sh a (hSz a - (n + 1)) v && csB sh a vs n
def zIs (b : Bool) (v : xV) : Bool := match v with
  | .inl (.ofNat m) => (!b) && Nat.beq m 0
  | .inl (.negSucc m) => b && Nat.beq m 0
  | _ => false
def csZ (b : Bool) : List xV → Nat → Bool
  | [], 0 => true
  | [], _ + 1 => false
  | _ :: _, 0 => false
  | v :: vs, n + 1 => zIs b v && csZ b vs n
def isZ (a : Nat) : Bool := Nat.beq (hTg a) 100 || (Nat.beq (hTg a) 101 && !(mN a))
def ceB (sh a : Nat) (c : xC) : Bool := Nat.beq c.1 (hTg a) && (bif isZ a then csZ (mN a) c.2 (hSz a) else csB sh a c.2 (hSz a))
def hpB : List xC → Nat → Bool
  | [], i => Nat.beq i 293
  | c :: cs, i => (bif Nat.ble i 146 then ceB 0 i c else ceB 146 (i - 146) c) && hpB cs (i + 1)
def iniB : Bool := match ini1 with
  | some (.inl none, ph1, 0) => Nat.beq ph1.length 147 && (match yr 100000 1999 81 0 (xent [.inr (.inl (some 147))]) [] (ph1 ++ [(9, xdf 9)]) with
    | some (.inl none, c :: cs, 0) => Nat.beq c.1 99 && (c.2.isEmpty && hpB cs 1)
    | _ => false)
  | _ => false
set_option maxRecDepth 100000 in
theorem iniB_ok : iniB = true := by decide +kernel
