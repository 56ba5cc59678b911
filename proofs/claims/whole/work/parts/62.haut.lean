def cA (p q u s x y z w : Int) : Int := (p * s - q * u) * (s * (x * p + y * u) - q * (z * p + w * u))
def cB (p q u s x y z w : Int) : Int := (p * s - q * u) * (s * (x * q + y * s) - q * (z * q + w * s))
def cC (p q u s x y z w : Int) : Int := (p * s - q * u) * (p * (z * p + w * u) - u * (x * p + y * u))
def cD (p q u s x y z w : Int) : Int := (p * s - q * u) * (p * (z * q + w * s) - u * (x * q + y * s))
theorem cj_m {p q u s : Int} (hd : (p * s - q * u) * (p * s - q * u) = 1) (x y z w : Int) :
    p * cA p q u s x y z w + q * cC p q u s x y z w = x * p + y * u ∧ p * cB p q u s x y z w + q * cD p q u s x y z w = x * q + y * s ∧
    u * cA p q u s x y z w + s * cC p q u s x y z w = z * p + w * u ∧ u * cB p q u s x y z w + s * cD p q u s x y z w = z * q + w * s := by
  unfold cA cB cC cD
  generalize x * p + y * u = a
  generalize x * q + y * s = b
  generalize z * p + w * u = c
  generalize z * q + w * s = d
  refine ⟨?_, ?_, ?_, ?_⟩
  · have : p * ((p * s - q * u) * (s * a - q * c)) + q * ((p * s - q * u) * (p * c - u * a)) = (p * s - q * u) * (p * s - q * u) * a := by grind
    rw [this, hd, Int.one_mul]
  · have : p * ((p * s - q * u) * (s * b - q * d)) + q * ((p * s - q * u) * (p * d - u * b)) = (p * s - q * u) * (p * s - q * u) * b := by grind
    rw [this, hd, Int.one_mul]
  · have : u * ((p * s - q * u) * (s * a - q * c)) + s * ((p * s - q * u) * (p * c - u * a)) = (p * s - q * u) * (p * s - q * u) * c := by grind
    rw [this, hd, Int.one_mul]
  · have : u * ((p * s - q * u) * (s * b - q * d)) + s * ((p * s - q * u) * (p * d - u * b)) = (p * s - q * u) * (p * s - q * u) * d := by grind
    rw [this, hd, Int.one_mul]
theorem cj_d {p q u s : Int} (hd : (p * s - q * u) * (p * s - q * u) = 1) {x y z w : Int} (ha : (x * w - y * z) * (x * w - y * z) = 1) :
    (cA p q u s x y z w * cD p q u s x y z w - cB p q u s x y z w * cC p q u s x y z w) * (cA p q u s x y z w * cD p q u s x y z w - cB p q u s x y z w * cC p q u s x y z w) = 1 := by
  have e : cA p q u s x y z w * cD p q u s x y z w - cB p q u s x y z w * cC p q u s x y z w = (p * s - q * u) * (p * s - q * u) * ((p * s - q * u) * (p * s - q * u)) * (x * w - y * z) := by
    have e1 : (x * p + y * u) * (z * q + w * s) - (x * q + y * s) * (z * p + w * u) = (x * w - y * z) * (p * s - q * u) := by grind
    unfold cA cB cC cD
    generalize x * p + y * u = a at *
    generalize x * q + y * s = b at *
    generalize z * p + w * u = c at *
    generalize z * q + w * s = d at *
    have e2 : (p * s - q * u) * (s * a - q * c) * ((p * s - q * u) * (p * d - u * b)) - (p * s - q * u) * (s * b - q * d) * ((p * s - q * u) * (p * c - u * a)) = (p * s - q * u) * (p * s - q * u) * (p * s - q * u) * (a * d - b * c) := by grind
    rw [e2, e1]
    generalize p * s - q * u = m
    generalize x * w - y * z = n
    grind
  rw [e, hd, Int.one_mul, Int.one_mul, ha]
/-- equal conjugates come from equal matrices -/
theorem cj_i {p q u s : Int} (hd : (p * s - q * u) * (p * s - q * u) = 1) {x y z w x' y' z' w' : Int} (h1 : x * p + y * u = x' * p + y' * u) (h2 : x * q + y * s = x' * q + y' * s) : x = x' ∧ y = y' := by
  have a : (p * s - q * u) * (p * s - q * u) * x = (p * s - q * u) * (p * s - q * u) * x' := by
    have e1 : (p * s - q * u) * (p * s - q * u) * x = (p * s - q * u) * (s * (x * p + y * u) - u * (x * q + y * s)) := by grind
    have e2 : (p * s - q * u) * (p * s - q * u) * x' = (p * s - q * u) * (s * (x' * p + y' * u) - u * (x' * q + y' * s)) := by grind
    rw [e1, e2, h1, h2]
  have b : (p * s - q * u) * (p * s - q * u) * y = (p * s - q * u) * (p * s - q * u) * y' := by
    have e1 : (p * s - q * u) * (p * s - q * u) * y = (p * s - q * u) * (p * (x * q + y * s) - q * (x * p + y * u)) := by grind
    have e2 : (p * s - q * u) * (p * s - q * u) * y' = (p * s - q * u) * (p * (x' * q + y' * s) - q * (x' * p + y' * u)) := by grind
    rw [e1, e2, h1, h2]
  rw [hd, Int.one_mul, Int.one_mul] at a b
  exact ⟨a, b⟩
