/-! numbers: Int32.ofInt of whole numbers within range -/
theorem j_ti {x : Int} (h1 : -2147483648 ≤ x) (h2 : x < 2147483648) : (Int32.ofInt x).toInt = x := by
  rw [Int32.toInt_ofInt]
  have hz : ((Int32.size : Nat) : Int) = 4294967296 := rfl
  rw [Int.bmod_eq_of_le] <;> omega
theorem j_of (x : Int32) : Int32.ofInt x.toInt = x := by
  apply Int32.toInt_inj.mp
  exact j_ti (by have := Int32.le_toInt x; omega) (by have := Int32.toInt_lt x; omega)
theorem j_lt {x y : Int} (h1 : -2147483648 ≤ x) (h2 : x < 2147483648) (h3 : -2147483648 ≤ y) (h4 : y < 2147483648) : (Int32.ofInt x < Int32.ofInt y) = (x < y) := by
  rw [Int32.lt_iff_toInt_lt, j_ti h1 h2, j_ti h3 h4]
theorem j_le {x y : Int} (h1 : -2147483648 ≤ x) (h2 : x < 2147483648) (h3 : -2147483648 ≤ y) (h4 : y < 2147483648) : (Int32.ofInt x ≤ Int32.ofInt y) = (x ≤ y) := by
  rw [Int32.le_iff_toInt_le, j_ti h1 h2, j_ti h3 h4]
theorem j_eq {x y : Int} (h1 : -2147483648 ≤ x) (h2 : x < 2147483648) (h3 : -2147483648 ≤ y) (h4 : y < 2147483648) : (Int32.ofInt x = Int32.ofInt y) = (x = y) := by
  apply propext
  constructor
  · intro h
    have := congrArg Int32.toInt h
    rw [j_ti h1 h2, j_ti h3 h4] at this
    exact this
  · intro h; rw [h]
theorem j_0 : (0 : Int32) = Int32.ofInt 0 := rfl
theorem j_lt0 {x : Int} (h1 : -2147483648 ≤ x) (h2 : x < 2147483648) : (Int32.ofInt x < 0) = (x < 0) := j_lt (y := 0) h1 h2 (by decide) (by decide)
theorem j_0lt {x : Int} (h1 : -2147483648 ≤ x) (h2 : x < 2147483648) : (0 < Int32.ofInt x) = (0 < x) := j_lt (x := 0) (by decide) (by decide) h1 h2
theorem j_le0 {x : Int} (h1 : -2147483648 ≤ x) (h2 : x < 2147483648) : (Int32.ofInt x ≤ 0) = (x ≤ 0) := j_le (y := 0) h1 h2 (by decide) (by decide)
theorem j_0le {x : Int} (h1 : -2147483648 ≤ x) (h2 : x < 2147483648) : (0 ≤ Int32.ofInt x) = (0 ≤ x) := j_le (x := 0) (by decide) (by decide) h1 h2
theorem j_eq0 {x : Int} (h1 : -2147483648 ≤ x) (h2 : x < 2147483648) : (Int32.ofInt x = 0) = (x = 0) := j_eq (y := 0) h1 h2 (by decide) (by decide)
theorem j_add (x y : Int) : Int32.ofInt x + Int32.ofInt y = Int32.ofInt (x + y) := (Int32.ofInt_add x y).symm
theorem j_sub (x y : Int) : Int32.ofInt x - Int32.ofInt y = Int32.ofInt (x - y) := (Int32.ofInt_sub x y).symm
theorem j_mul (x y : Int) : Int32.ofInt x * Int32.ofInt y = Int32.ofInt (x * y) := (Int32.ofInt_mul x y).symm
theorem j_neg (x : Int) : -Int32.ofInt x = Int32.ofInt (-x) := (Int32.ofInt_neg x).symm
theorem j_0sub (x : Int) : 0 - Int32.ofInt x = Int32.ofInt (0 - x) := j_sub 0 x
theorem j_nat {x : Int} (h1 : 0 ≤ x) (h2 : x < 2147483648) : (Int32.ofInt x).toNatClampNeg = x.toNat := by
  show (Int32.ofInt x).toInt.toNat = x.toNat
  rw [j_ti (by omega) h2]
theorem j_in {x : Int} {n : Nat} (h1 : -2147483648 ≤ x) (h2 : x < 2147483648) : vp_in (Int32.ofInt x) n = (0 ≤ x ∧ x < n) := by
  apply propext
  rw [vp_in_iff, j_ti h1 h2]
theorem j_nI {x : Int} (h1 : 0 ≤ x) (h2 : x < 2147483648) : Int32.ofInt x = nI x.toNat := by
  apply Int32.toInt_inj.mp
  rw [j_ti (by omega) h2, nI_toInt (by omega)]
  omega
theorem j_div {x y : Int} (h1 : 0 ≤ x) (h2 : x < 2147483648) (h3 : 0 < y) (h4 : y < 2147483648) : Int32.ofInt x / Int32.ofInt y = Int32.ofInt (x / y) := by
  have hq : 0 ≤ x / y := Int.ediv_nonneg h1 (by omega)
  have hq2 : x / y ≤ x := Int.ediv_le_self y h1
  rw [j_nI h1 h2, j_nI (by omega) h4, pk_div (by omega) (by omega) (by omega), j_nI hq (by omega)]
  congr 1
  obtain ⟨a, rfl⟩ := Int.eq_ofNat_of_zero_le h1
  obtain ⟨b, rfl⟩ := Int.eq_ofNat_of_zero_le (show 0 ≤ y by omega)
  rw [← Int.natCast_ediv]
  exact (Int.toNat_natCast (a / b)).symm
theorem j_rem {x y : Int} (h1 : 0 ≤ x) (h2 : x < 2147483648) (h3 : 0 < y) (h4 : y < 2147483648) : Int32.ofInt x - Int32.ofInt x / Int32.ofInt y * Int32.ofInt y = Int32.ofInt (x % y) := by
  rw [j_div h1 h2 h3 h4, j_mul, j_sub]
  congr 1
  rw [Int.emod_def, Int.mul_comm]
theorem j_ite (c : Prop) [Decidable c] (x y : Int) : (if c then Int32.ofInt x else Int32.ofInt y) = Int32.ofInt (if c then x else y) := by
  split <;> rfl
