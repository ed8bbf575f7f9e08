/-! comparisons that the kernel decides by the numbers alone -/
def iLeB : Int → Int → Bool
  | .ofNat a, .ofNat b => Nat.ble a b
  | .ofNat _, .negSucc _ => false
  | .negSucc _, .ofNat _ => true
  | .negSucc a, .negSucc b => Nat.ble b a
theorem iLeB_ok (a b : Int) : iLeB a b = true ↔ a ≤ b := by
  match a, b with
  | .ofNat a, .ofNat b =>
    show Nat.ble a b = true ↔ _
    rw [Nat.ble_eq]
    show a ≤ b ↔ ((a : Nat) : Int) ≤ ((b : Nat) : Int)
    omega
  | .ofNat a, .negSucc b =>
    show false = true ↔ ((a : Nat) : Int) ≤ Int.negSucc b
    constructor
    · intro h; cases h
    · intro h; omega
  | .negSucc a, .ofNat b =>
    show true = true ↔ Int.negSucc a ≤ ((b : Nat) : Int)
    constructor
    · intro _; omega
    · intro _; rfl
  | .negSucc a, .negSucc b =>
    show Nat.ble b a = true ↔ Int.negSucc a ≤ Int.negSucc b
    rw [Nat.ble_eq]
    omega
def iEqB : Int → Int → Bool
  | .ofNat a, .ofNat b => Nat.beq a b
  | .negSucc a, .negSucc b => Nat.beq a b
  | _, _ => false
theorem iEqB_ok (a b : Int) : iEqB a b = true ↔ a = b := by
  match a, b with
  | .ofNat a, .ofNat b =>
    show Nat.beq a b = true ↔ _
    rw [Nat.beq_eq]
    show a = b ↔ ((a : Nat) : Int) = ((b : Nat) : Int)
    omega
  | .ofNat a, .negSucc b =>
    show false = true ↔ ((a : Nat) : Int) = Int.negSucc b
    constructor
    · intro h; cases h
    · intro h; omega
  | .negSucc a, .ofNat b =>
    show false = true ↔ Int.negSucc a = ((b : Nat) : Int)
    constructor
    · intro h; cases h
    · intro h; omega
  | .negSucc a, .negSucc b =>
    show Nat.beq a b = true ↔ Int.negSucc a = Int.negSucc b
    rw [Nat.beq_eq]
    omega
def bDec {p : Prop} : (b : Bool) → (b = true ↔ p) → Decidable p
  | true, h => isTrue (h.mp rfl)
  | false, h => isFalse (fun q => by have := h.mpr q; cases this)
def iLe (a b : Int) : Decidable (a ≤ b) := bDec (iLeB a b) (iLeB_ok a b)
def iLt (a b : Int) : Decidable (a < b) := iLe (a + 1) b
def iEq (a b : Int) : Decidable (a = b) := bDec (iEqB a b) (iEqB_ok a b)
def nEq (a b : Nat) : Decidable (a = b) := bDec (Nat.beq a b) (by rw [Nat.beq_eq])
def nLt (a b : Nat) : Decidable (a < b) := bDec (Nat.ble (a + 1) b) (by rw [Nat.ble_eq]; exact Iff.rfl)
def iMin (a b : Int) : Int := match iLeB a b with
  | true => a
  | false => b
def iMax (a b : Int) : Int := match iLeB a b with
  | true => b
  | false => a
theorem iMin_eq (a b : Int) : iMin a b = min a b := by
  unfold iMin
  cases h : iLeB a b with
  | true => exact (Int.min_eq_left ((iLeB_ok a b).mp h)).symm
  | false =>
    have : ¬ a ≤ b := fun q => by rw [(iLeB_ok a b).mpr q] at h; cases h
    have h2 : b ≤ a := by omega
    exact (Int.min_eq_right h2).symm
theorem iMax_eq (a b : Int) : iMax a b = max a b := by
  unfold iMax
  cases h : iLeB a b with
  | true => exact (Int.max_eq_right ((iLeB_ok a b).mp h)).symm
  | false =>
    have : ¬ a ≤ b := fun q => by rw [(iLeB_ok a b).mpr q] at h; cases h
    have h2 : b ≤ a := by omega
    exact (Int.max_eq_left h2).symm
theorem dT {p : Prop} {i : Decidable p} (h : @decide p i = true) : p := by
  cases i with
  | isTrue q => exact q
  | isFalse q => cases h
theorem dD {p : Prop} {i : Decidable p} (h : p) : @decide p i = true := by
  cases i with
  | isTrue q => rfl
  | isFalse q => exact absurd h q
theorem dQ {p : Prop} {i : Decidable p} : (@decide p i = true) = p := propext ⟨dT, dD⟩
