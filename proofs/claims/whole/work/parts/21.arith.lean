/-! whole numbers -/
def rg (a : Int) : Prop := -2147483648 ≤ a ∧ a < 2147483648
theorem iI_add (a b : Int) : iI a + iI b = iI (a + b) := (Int32.ofInt_add a b).symm
theorem iI_sub (a b : Int) : iI a - iI b = iI (a - b) := (Int32.ofInt_sub a b).symm
theorem iI_mul (a b : Int) : iI a * iI b = iI (a * b) := (Int32.ofInt_mul a b).symm
theorem iI_toInt {a : Int} (h1 : -2147483648 ≤ a) (h2 : a < 2147483648) : (iI a).toInt = a := by
  unfold iI
  exact Int32.toInt_ofInt_of_le h1 h2
theorem iI_of (x : Int32) : ∃ a : Int, -2147483648 ≤ a ∧ a < 2147483648 ∧ x = iI a :=
  ⟨x.toInt, Int32.le_toInt x, Int32.toInt_lt x, by unfold iI; rw [Int32.ofInt_toInt]⟩
theorem iI_le {a b : Int} (h1 : -2147483648 ≤ a) (h2 : a < 2147483648) (h3 : -2147483648 ≤ b) (h4 : b < 2147483648) : iI a ≤ iI b ↔ a ≤ b := by
  rw [Int32.le_iff_toInt_le, iI_toInt h1 h2, iI_toInt h3 h4]
theorem iI_lt {a b : Int} (h1 : -2147483648 ≤ a) (h2 : a < 2147483648) (h3 : -2147483648 ≤ b) (h4 : b < 2147483648) : iI a < iI b ↔ a < b := by
  rw [Int32.lt_iff_toInt_lt, iI_toInt h1 h2, iI_toInt h3 h4]
theorem iI_eq {a b : Int} (h1 : -2147483648 ≤ a) (h2 : a < 2147483648) (h3 : -2147483648 ≤ b) (h4 : b < 2147483648) : iI a = iI b ↔ a = b := by
  rw [← Int32.toInt_inj, iI_toInt h1 h2, iI_toInt h3 h4]
theorem i0 : (0 : Int32) = iI 0 := rfl
theorem i1 : (1 : Int32) = iI 1 := rfl
theorem iI_nat {a : Int} (h1 : 0 ≤ a) (h2 : a < 2147483648) : (iI a).toNatClampNeg = a.toNat := by
  unfold Int32.toNatClampNeg
  rw [iI_toInt (by omega) h2]
theorem iI_in {a : Int} {n : Nat} (h1 : -2147483648 ≤ a) (h2 : a < 2147483648) : i_in (iI a) n ↔ 0 ≤ a ∧ a < n := by
  unfold i_in
  have h3 : (iI a).toNatClampNeg = a.toNat := by
    unfold Int32.toNatClampNeg
    rw [iI_toInt h1 h2]
  rw [h3, i0, iI_lt h1 h2 (by omega) (by omega)]
  omega
theorem iI_div {a b : Int} (h1 : 0 ≤ a) (h2 : a < 2147483648) (h3 : 0 < b) (h4 : b < 2147483648) : iI a / iI b = iI (a / b) := by
  have e1 : iI a = nI a.toNat := by rw [nI_iI, Int.toNat_of_nonneg h1]
  have e2 : iI b = nI b.toNat := by rw [nI_iI, Int.toNat_of_nonneg (by omega)]
  rw [e1, e2, pk_div (by omega) (by omega) (by omega), nI_iI]
  congr 1
  rw [Int.natCast_ediv, Int.toNat_of_nonneg h1, Int.toNat_of_nonneg (by omega)]
theorem iI_rem {a b : Int} (h1 : 0 ≤ a) (h2 : a < 2147483648) (h3 : 0 < b) (h4 : b < 2147483648) : irm (iI a) (iI b) = iI (a % b) := by
  unfold irm
  rw [iI_div h1 h2 h3 h4, iI_mul, iI_sub]
  congr 1
  have := Int.mul_ediv_add_emod a b
  rw [Int.mul_comm] at this
  omega
theorem u2_s {μ : Mem} {c s : Nat} {x : Int32} : u2 μ c s x c s = x := if_pos ⟨rfl, rfl⟩
theorem u2_c {μ : Mem} {c s c' s' : Nat} {x : Int32} (h : ¬ c' = c) : u2 μ c s x c' s' = μ c' s' := if_neg (fun z => h z.1)
theorem u2_n {μ : Mem} {c s c' s' : Nat} {x : Int32} (h : ¬ s' = s) : u2 μ c s x c' s' = μ c' s' := if_neg (fun z => h z.2)
theorem u2_cell {μ : Mem} {c s c' : Nat} {x : Int32} (h : ¬ c' = c) : u2 μ c s x c' = μ c' := funext (fun _ => u2_c h)
