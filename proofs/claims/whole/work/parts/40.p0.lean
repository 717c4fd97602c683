/-! ===== the pure side: numbers ===== -/
theorem ltI {x y : Int32} : x < y ↔ x.toInt < y.toInt := Int32.lt_iff_toInt_lt
theorem leI {x y : Int32} : x ≤ y ↔ x.toInt ≤ y.toInt := Int32.le_iff_toInt_le
theorem eqI {x y : Int32} : x = y ↔ x.toInt = y.toInt := Int32.toInt_inj.symm
theorem clI (x : Int32) : x.toNatClampNeg = x.toInt.toNat := rfl
theorem rgI (x : Int32) : -2147483648 ≤ x.toInt ∧ x.toInt < 2147483648 := ⟨Int32.le_toInt x, Int32.toInt_lt x⟩
theorem addI {x y : Int32} (h : -2147483648 ≤ x.toInt + y.toInt ∧ x.toInt + y.toInt < 2147483648) : (x + y).toInt = x.toInt + y.toInt := by
  rw [Int32.toInt_add]
  exact Int.bmod_eq_of_le (by omega) (by omega)
theorem subI {x y : Int32} (h : -2147483648 ≤ x.toInt - y.toInt ∧ x.toInt - y.toInt < 2147483648) : (x - y).toInt = x.toInt - y.toInt := by
  rw [Int32.toInt_sub]
  exact Int.bmod_eq_of_le (by omega) (by omega)
theorem lgc_lt {x y : Int64} : lg_cmp x y < 0 ↔ x.toInt < y.toInt := by
  unfold lg_cmp
  by_cases h1 : x > y
  · have h2 : y.toInt < x.toInt := Int64.lt_iff_toInt_lt.mp h1
    rw [if_pos h1]
    exact ⟨fun h => absurd h (by decide), fun h => by omega⟩
  · have h2 : ¬ y.toInt < x.toInt := fun h => h1 (Int64.lt_iff_toInt_lt.mpr h)
    rw [if_neg h1]
    by_cases h3 : x = y
    · rw [if_pos h3, h3]
      exact ⟨fun h => absurd h (by decide), fun h => by omega⟩
    · rw [if_neg h3]
      have h4 : x.toInt ≠ y.toInt := fun h => h3 (Int64.toInt_inj.mp h)
      exact ⟨fun _ => by omega, fun _ => by decide⟩
theorem lgc_gt {x y : Int64} : 0 < lg_cmp x y ↔ y.toInt < x.toInt := by
  unfold lg_cmp
  by_cases h1 : x > y
  · have h2 : y.toInt < x.toInt := Int64.lt_iff_toInt_lt.mp h1
    rw [if_pos h1]
    exact ⟨fun _ => h2, fun _ => by decide⟩
  · have h2 : ¬ y.toInt < x.toInt := fun h => h1 (Int64.lt_iff_toInt_lt.mpr h)
    rw [if_neg h1]
    by_cases h3 : x = y
    · rw [if_pos h3]
      exact ⟨fun h => absurd h (by decide), fun h => absurd h h2⟩
    · rw [if_neg h3]
      exact ⟨fun h => absurd h (by decide), fun h => absurd h h2⟩
theorem tiL (x : Int32) : x.toInt64.toInt = x.toInt := Int32.toInt_toInt64 x
section PUREK
variable {α β : Type}
theorem bd_s (u : α) (k : α → Option β) : bd (some u) k = k u := rfl
theorem bn_s (u : α) (k : α → Option β) : bn u k = k u := rfl
theorem gin_s {i : Int32} {n : Nat} {k : Option α} (h : 0 ≤ i.toInt ∧ i.toInt < n) : gin i n k = k := by
  unfold gin
  rw [if_neg]
  rw [ltI, clI]
  show ¬ (i.toInt < 0 ∨ n ≤ i.toInt.toNat)
  omega
theorem gbo_1 {k : Option α} : gbo 1 k = k := rfl
theorem gbo_0 {k : Option α} : gbo 0 k = k := rfl
theorem gnz_s {y : Int32} {k : Option α} (h : y.toInt ≠ 0) : gnz y k = k := by
  unfold gnz
  rw [if_neg]
  intro e
  rw [e] at h
  exact h rfl
end PUREK
/-- 1 or 0 -/
def bI (p : Prop) [Decidable p] : Int32 := if p then 1 else 0
theorem bI_t {p : Prop} [Decidable p] (h : p) : bI p = 1 := if_pos h
theorem bI_f {p : Prop} [Decidable p] (h : ¬ p) : bI p = 0 := if_neg h
theorem bI_0 {p : Prop} [Decidable p] : bI p = 0 ↔ ¬ p := by
  unfold bI
  by_cases h : p
  · rw [if_pos h]; exact ⟨fun e => absurd e (by decide), fun e => absurd h e⟩
  · rw [if_neg h]; exact ⟨fun _ => h, fun _ => rfl⟩
theorem v_in (x y z : Int64) : f_X8_in x y z = some (bI (y.toInt ≤ x.toInt ∧ x.toInt ≤ z.toInt)) := by
  unfold f_X8_in
  simp only [lgc_lt, lgc_gt]
  by_cases h1 : x.toInt < y.toInt
  · rw [if_pos h1, bI_f (by omega)]
  · rw [if_neg h1]
    by_cases h2 : z.toInt < x.toInt
    · rw [if_pos h2, bI_f (by omega)]
    · rw [if_neg h2, bI_t (by omega)]
theorem v_isByte (x : Int32) : f_X7_isByte x = some (bI (0 ≤ x.toInt ∧ x.toInt ≤ 255)) := by
  unfold f_X7_isByte
  simp only [ltI, show (0 : Int32).toInt = 0 from rfl, show (255 : Int32).toInt = 255 from rfl]
  by_cases h1 : x.toInt < 0
  · rw [if_pos h1, bI_f (by omega)]
  · rw [if_neg h1]
    by_cases h2 : 255 < x.toInt
    · rw [if_pos h2, bI_f (by omega)]
    · rw [if_neg h2, bI_t (by omega)]
theorem v_X7_peek (i size : Int32) (mem : Nat → Int32) (hz : size.toInt ≤ 512) : f_X7_peek i size mem = some (if 0 ≤ i.toInt ∧ i.toInt < size.toInt then mem i.toNatClampNeg else -1) := by
  unfold f_X7_peek
  simp only [ltI, show (0 : Int32).toInt = 0 from rfl]
  by_cases h1 : i.toInt < 0
  · rw [if_pos h1, if_neg (by omega)]
  · rw [if_neg h1]
    by_cases h2 : i.toInt < size.toInt
    · rw [if_pos h2, if_pos (by omega), gin_s (by omega)]
    · rw [if_neg h2, if_neg (by omega)]
theorem v_X8_peek (i size : Int32) (mem : Nat → Int32) (h0 : 0 ≤ size.toInt) (hz : size.toInt ≤ 512) : f_X8_peek i size mem = some (if 0 ≤ i.toInt ∧ i.toInt < size.toInt then mem i.toNatClampNeg else -1, 0) := by
  unfold f_X8_peek
  simp only [v_in, bd_s, bI_0, tiL, show (0 : Int64).toInt = 0 from rfl]
  rw [subI (by rw [show (1 : Int32).toInt = 1 from rfl]; omega), show (1 : Int32).toInt = 1 from rfl]
  by_cases h1 : 0 ≤ i.toInt ∧ i.toInt < size.toInt
  · rw [if_pos h1, if_neg (by omega), gin_s (by omega)]
  · rw [if_neg h1, if_pos (by omega)]
