/-! the state: forms, elements, cells; the class's own formulas over 64 bits -/
abbrev Fm : Type := Int64 × Int64 × Int64 × Int64
abbrev Em : Type := Int64 × Int64 × Int64
abbrev cubE (f : Fm) : va_E := .inr (0, [.long f.1, .long f.2.1, .long f.2.2.1, .long f.2.2.2])
abbrev elE (f : Em) : va_E := .inr (3, [.long f.1, .long f.2.1, .long f.2.2])
abbrev wkE (s c : Nat) : va_E := .inr (4, [.ref s, .ref c])
abbrev rgE (o w z p r1 r2 r3 : Nat) : va_E := .inr (2, [.ref o, .ref w, .ref z, .ref p, .ref r1, .ref r2, .ref r3])
abbrev ftE (fd : Nat) (tc : Int32) (gd : Nat) (gc fl : Int32) (fo le : Nat) : va_E := .inr (1, [.ref fd, .int tc, .ref gd, .int gc, .int fl, .ref fo, .ref le])
abbrev cfE (co : Nat) (n : Int32) (pa wo ot le ri wk rg ta : Nat) : va_E := .inr (5, [.ref co, .int n, .ref pa, .ref wo, .ref ot, .ref le, .ref ri, .ref wk, .ref rg, .ref ta])
abbrev moE (n : Int32) (st : Nat) (f k : Fm) (he : Nat) (p : Em) (ma tr : Nat) (t : Fm) (tb : Int32) (fo gi : Nat) : va_E := .inr (6, [.int n, .ref st, .long f.1, .long f.2.1, .long f.2.2.1, .long f.2.2.2, .long k.1, .long k.2.1, .long k.2.2.1, .long k.2.2.2, .ref he, .long p.1, .long p.2.1, .long p.2.2, .ref ma, .ref tr, .long t.1, .long t.2.1, .long t.2.2.1, .long t.2.2.2, .int tb, .ref fo, .ref gi])
abbrev aiE (cI : ClassId) (n : Nat) (f : Nat → Int32) : va_E := .inl (cI, n, .inl f)
abbrev alE (cJ : ClassId) (n : Nat) (f : Nat → Int64) : va_E := .inl (cJ, n, .inr (.inl f))
def absI (x : Int32) : Int32 := if 0 ≤ x then x else 0 - x
def absL (x : Int64) : Int64 := if 0 < x then x else -x
def remL (x y : Int64) : Int64 := x - x / y * y
def isW (x b : Int64) : Bool := decide (¬ x < -b) && decide (¬ b < x)
def fitsF (f : Fm) : Bool := isW f.1 300 && isW f.2.1 300 && isW f.2.2.1 300 && isW f.2.2.2 300
def sameF (f g : Fm) : Bool := decide (f.1 = g.1) && decide (f.2.1 = g.2.1) && decide (f.2.2.1 = g.2.2.1) && decide (f.2.2.2 = g.2.2.2)
def befF (f g : Fm) : Bool := if f.1 = g.1 then (if f.2.1 = g.2.1 then (if f.2.2.1 = g.2.2.1 then decide (f.2.2.2 < g.2.2.2) else decide (f.2.2.1 < g.2.2.1)) else decide (f.2.1 < g.2.1)) else decide (f.1 < g.1)
def discF (f : Fm) : Int64 := f.2.1 * f.2.1 * f.2.2.1 * f.2.2.1 - 4 * f.1 * f.2.2.1 * f.2.2.1 * f.2.2.1 - 4 * f.2.1 * f.2.1 * f.2.1 * f.2.2.2 - 27 * f.1 * f.1 * f.2.2.2 * f.2.2.2 + 18 * f.1 * f.2.1 * f.2.2.1 * f.2.2.2
def hpF (f : Fm) : Int64 := f.2.1 * f.2.1 - 3 * f.1 * f.2.2.1
def hqF (f : Fm) : Int64 := f.2.1 * f.2.2.1 - 9 * f.1 * f.2.2.2
def hrF (f : Fm) : Int64 := f.2.2.1 * f.2.2.1 - 3 * f.2.1 * f.2.2.2
def reduF (f : Fm) : Bool := isW (hqF f) (hpF f) && decide (¬ hrF f < hpF f)
def valF (f : Fm) (x y : Int64) : Int64 := ((f.1 * x + f.2.1 * y) * x + f.2.2.1 * y * y) * x + f.2.2.2 * y * y * y
def subF (f : Fm) (p q r s : Int64) : Fm := (valF f p r,
  3 * f.1 * p * p * q + f.2.1 * p * (p * s + 2 * q * r) + f.2.2.1 * r * (2 * p * s + q * r) + 3 * f.2.2.2 * r * r * s,
  3 * f.1 * p * q * q + f.2.1 * q * (2 * p * s + q * r) + f.2.2.1 * s * (p * s + 2 * q * r) + 3 * f.2.2.2 * r * s * s,
  valF f q s)
def shF (f : Fm) (k : Int64) : Fm := (f.1, 3 * f.1 * k + f.2.1, (3 * f.1 * k + 2 * f.2.1) * k + f.2.2.1, valF f k 1)
def swF (f : Fm) : Fm := (f.2.2.2, f.2.2.1, f.2.1, f.1)
def fdivL (x y : Int64) : Int64 := if x ^^^ y < 0 then (if x / y * y = x then x / y else x / y - 1) else x / y
def redGo : Nat → Fm → Fm
  | 0, f => f
  | k + 1, f => if 0 < 2 * hpF f then (if hrF (shF f (fdivL (hpF f - hqF f) (2 * hpF f))) < hpF f then redGo k (swF (shF f (fdivL (hpF f - hqF f) (2 * hpF f)))) else shF f (fdivL (hpF f - hqF f) (2 * hpF f))) else f
def vanF (f : Fm) (x y : Int64) : Bool := decide (valF f x y = 0) || decide (valF f (-x) y = 0)
def mulF (f : Fm) (p : Int64) : Bool := decide (remL f.1 p = 0) && decide (remL f.2.1 p = 0) && decide (remL f.2.2.1 p = 0) && decide (remL f.2.2.2 p = 0)
def ptF (f : Fm) (p t : Int64) : Fm := if t = p then (f.2.2.2, f.2.2.1, f.2.1, f.1) else (((f.2.2.2 * t + f.2.2.1) * t + f.2.1) * t + f.1, (3 * f.2.2.2 * t + 2 * f.2.2.1) * t + f.2.1, 3 * f.2.2.2 * t + f.2.2.1, f.2.2.2)
def sameE (e g : Em) : Bool := decide (e.1 = g.1) && decide (e.2.1 = g.2.1) && decide (e.2.2 = g.2.2)
def fitsE (e : Em) : Bool := isW e.1 100 && isW e.2.1 100 && isW e.2.2 100
def traceE (e : Em) (f : Fm) : Int64 := 3 * e.1 + f.2.1 * e.2.1 - f.2.2.1 * e.2.2
def prodE (f : Fm) (x y : Em) : Em := (x.1 * y.1 - f.1 * f.2.2.1 * (x.2.1 * y.2.1) - f.2.1 * f.2.2.2 * (x.2.2 * y.2.2) - f.1 * f.2.2.2 * (x.2.1 * y.2.2 + x.2.2 * y.2.1),
  x.1 * y.2.1 + x.2.1 * y.1 + f.2.1 * (x.2.1 * y.2.1) + f.2.2.2 * (x.2.2 * y.2.2),
  x.1 * y.2.2 + x.2.2 * y.1 - f.1 * (x.2.1 * y.2.1) - f.2.2.1 * (x.2.2 * y.2.2))
def detE (a b c : Em) : Int64 := a.1 * (b.2.1 * c.2.2 - b.2.2 * c.2.1) - a.2.1 * (b.1 * c.2.2 - b.2.2 * c.1) + a.2.2 * (b.1 * c.2.1 - b.2.1 * c.1)
def trowE (f : Fm) (e : Em) : Em := (traceE (prodE f e (1, 0, 0)) f, traceE (prodE f e (0, 1, 0)) f, traceE (prodE f e (0, 0, 1)) f)
