/-! ===== reading: what the file tells ===== -/
def fr (b : Nat → Int32) (p : Nat) : Int32 := ((((b p) <<< ((24 : Int32) &&& 31)) ||| ((b (p + 1)) <<< ((16 : Int32) &&& 31))) ||| ((b (p + 2)) <<< ((8 : Int32) &&& 31))) ||| (b (p + 3))
theorem fr_congr {b b' : Nat → Int32} {p n : Nat} (h : ∀ i, i < n → b' i = b i ∧ Byt (b i)) (hp : p + 4 ≤ n) : fr b' p = fr b p := by
  unfold fr
  rw [(h p (by omega)).1, (h (p + 1) (by omega)).1, (h (p + 2) (by omega)).1, (h (p + 3) (by omega)).1]
theorem v_four1 {p : Nat} (h : p + 4 ≤ 1200) (b : Nat → Int32) : f_X0_fourAt (nI p) b = some (fr b p) := by
  unfold f_X0_fourAt fr
  simp (disch := omega) only [lt0_n, ifF, show (1196 : Int32) = nI 1196 from rfl, show (1 : Int32) = nI 1 from rfl, show (2 : Int32) = nI 2 from rfl, show (3 : Int32) = nI 3 from rfl, nI_leI, nI_add, gin_n, nI_clamp]
  rw [if_pos (by omega)]
theorem v_four8 {p : Nat} (h : p + 4 ≤ 1200) (b : Nat → Int32) : f_X8_fourAt (nI p) b = some (fr b p) := by
  unfold f_X8_fourAt fr
  simp (disch := omega) only [show (1 : Int32) = nI 1 from rfl, show (2 : Int32) = nI 2 from rfl, show (3 : Int32) = nI 3 from rfl, nI_add, gin_n, nI_clamp]
theorem v_reaches (i : Int32) (j : Int64) {n : Nat} (hn : n ≤ 1200) (hj : j.toInt ≤ 4294967296) (f p : Int32) : f_X3_reaches i j (nI n) f p = if 0 ≤ i.toInt ∧ 0 ≤ j.toInt ∧ i.toInt + j.toInt ≤ n then some (1, f, p) else some (0, 1, nI n) := by
  unfold f_X3_reaches
  rw [v_holds i j hn hj, bd_s]
  simp only [bI_0]
  by_cases h : 0 ≤ i.toInt ∧ 0 ≤ j.toInt ∧ i.toInt + j.toInt ≤ n
  · rw [if_neg (not_not_intro h), if_pos h]
  · rw [if_pos h, if_neg h]
    rfl
theorem v_reachesN {i k n : Nat} (hi : i < 2 ^ 31) {j : Int64} (hj : j.toInt = k) (hk : k ≤ 4294967296) (hn : n ≤ 1200) (f p : Int32) : f_X3_reaches (nI i) j (nI n) f p = if i + k ≤ n then some (1, f, p) else some (0, 1, nI n) := by
  rw [v_reaches _ _ hn (by omega), nI_toInt hi, hj]
  by_cases h : i + k ≤ n
  · rw [if_pos h, if_pos (by omega)]
  · rw [if_neg h, if_neg (by omega)]
theorem lgc_le {x y : Int64} : lg_cmp x y ≤ 0 ↔ x.toInt ≤ y.toInt := by
  have h := lgc_gt (x := x) (y := y)
  rw [Int32.le_iff_toInt_le, show (0 : Int32).toInt = 0 from rfl]
  rw [Int32.lt_iff_toInt_lt, show (0 : Int32).toInt = 0 from rfl] at h
  omega
theorem v_has {i k n : Nat} (hi : i < 2 ^ 31) {j : Int64} (hj : j.toInt = k) (hk : k ≤ 4294967296) (hn : n ≤ 1200) (q : Int32) : f_X8_has j (nI n) (nI i) 0 q = if i + k ≤ n then some (1, 0, q) else some (0, 1, nI n) := by
  unfold f_X8_has
  have e : ((nI i).toInt64 + j).toInt = i + k := by
    rw [Int64.toInt_add, tiL, nI_toInt hi, hj]
    exact Int.bmod_eq_of_le (by omega) (by omega)
  simp only [lgc_le, e, tiL, nI_toInt (show n < 2 ^ 31 by omega)]
  by_cases h : i + k ≤ n
  · rw [if_pos h, if_pos (by omega)]
    rfl
  · rw [if_neg h, if_neg (by omega)]
    rfl
theorem v_fail8 (w p q : Int32) : f_X8_fail w p 0 q = some (w, p) := by
  unfold f_X8_fail
  rw [if_pos rfl]
theorem v_fail8n {f : Int32} (w p q : Int32) (h : f ≠ 0) : f_X8_fail w p f q = some (f, q) := by
  unfold f_X8_fail
  rw [if_neg h]
/-- the four letters -/
theorem lk_let {n p : Nat} {lt : Int32} {b b' : Nat → Int32} (hn : n ≤ 1200) (hp : p ≤ 1000) (hb : ∀ i, i < n → b' i = b i ∧ Byt (b i)) : ∀ (c fuel k : Nat) (q f0 p0 : Int32) (K : Int32 → Int32 → Int32 → Option (Int32 × Int32 × Int32)) (K' : Int32 → Int32 → Int32 → Int32 → Option (Int32 × Int32 × Int32)), k + c = 4 → c + 1 < fuel → (L_X3_readLetters_3 (nI p) lt (nI n) b K fuel f0 p0 (nI k) = K f0 p0 (nI 4) ∧ L_X8_letters_2 lt (nI n) b' K' fuel (nI (p + k)) 0 q (nI k) = K' (nI (p + 4)) 0 q (nI 4)) ∨ (∃ f y at' k', (f = 1 ∨ f = 2) ∧ L_X3_readLetters_3 (nI p) lt (nI n) b K fuel f0 p0 (nI k) = some (0, f, y) ∧ L_X8_letters_2 lt (nI n) b' K' fuel (nI (p + k)) 0 q (nI k) = K' at' f y k') := by
  intro c
  induction c with
  | zero =>
    intro fuel k q f0 p0 K K' h1 h2
    obtain ⟨f, rfl⟩ : ∃ f, fuel = f + 1 := ⟨fuel - 1, by omega⟩
    obtain rfl : k = 4 := by omega
    left
    constructor
    · show B_X3_readLetters_3 _ _ _ _ _ _ _ _ _ = _
      unfold B_X3_readLetters_3
      rw [if_pos (by decide)]
    · show B_X8_letters_2 _ _ _ _ _ _ _ _ _ = _
      unfold B_X8_letters_2
      rw [if_pos (by decide)]
  | succ c ih =>
    intro fuel k q f0 p0 K K' h1 h2
    obtain ⟨f, rfl⟩ : ∃ f, fuel = f + 2 := ⟨fuel - 2, by omega⟩
    have e1 : L_X3_readLetters_3 (nI p) lt (nI n) b K (f + 2) f0 p0 (nI k) = if p + k + 1 ≤ n then (if b (p + k) = by4 lt k then L_X3_readLetters_3 (nI p) lt (nI n) b K (f + 1) f0 p0 (nI (k + 1)) else some (0, 2, nI (p + k))) else some (0, 1, nI n) := by
      show B_X3_readLetters_3 _ _ _ _ _ _ _ _ _ = _
      unfold B_X3_readLetters_3
      rw [if_neg (by rw [show (4 : Int32) = nI 4 from rfl, nI_leI (by omega) (by omega)]; omega), nI_add, v_reachesN (k := 1) (by omega) rfl (by omega) hn, ush_k lt k (by omega)]
      by_cases h : p + k + 1 ≤ n
      · rw [if_pos h, if_pos h, bd_s, if_neg (show ¬ (1 : Int32) = 0 by decide), v_byteAt (by omega), bd_s, nI_inc]
        by_cases h3 : b (p + k) = by4 lt k
        · rw [if_pos h3, if_pos h3]
          rfl
        · rw [if_neg h3, if_neg h3]
          rfl
      · rw [if_neg h, if_neg h]
        rfl
    have stop : ∀ (at' y k' : Int32) (g : Int32), g ≠ 0 → L_X8_letters_2 lt (nI n) b' K' (f + 1) at' g y k' = K' at' g y k' := by
      intro at' y k' g hg
      show B_X8_letters_2 _ _ _ _ _ _ _ _ _ = _
      unfold B_X8_letters_2
      by_cases h : (4 : Int32) ≤ k'
      · rw [if_pos h]
      · rw [if_neg h, if_neg hg]
    have e8 : L_X8_letters_2 lt (nI n) b' K' (f + 2) (nI (p + k)) 0 q (nI k) = if p + k + 1 ≤ n then (if b (p + k) = by4 lt k then L_X8_letters_2 lt (nI n) b' K' (f + 1) (nI (p + (k + 1))) 0 q (nI (k + 1)) else K' (nI (p + k + 1)) 2 (nI (p + k)) (nI (k + 1))) else K' (nI (p + k + 1)) 1 (nI n) (nI (k + 1)) := by
      show B_X8_letters_2 _ _ _ _ _ _ _ _ _ = _
      unfold B_X8_letters_2 J_X8_letters_56
      rw [if_neg (by rw [show (4 : Int32) = nI 4 from rfl, nI_leI (by omega) (by omega)]; omega), if_pos rfl, v_has (k := 1) (by omega) rfl (by omega) hn, shr_k lt k (by omega), show nI (p + k) + (1 : Int32) = nI (p + k + 1) from nI_1 _]
      by_cases h : p + k + 1 ≤ n
      · rw [if_pos h, if_pos h, bd_s, if_neg (show ¬ (1 : Int32) = 0 by decide), gin_n (by omega) (by omega), nI_clamp (by omega), (hb (p + k) (by omega)).1, nI_inc]
        by_cases h3 : b (p + k) = by4 lt k
        · rw [if_pos h3, if_pos h3]
          rfl
        · rw [if_neg h3, if_neg h3, v_fail8, bd_s, bn_s, bn_s]
          exact stop _ _ _ 2 (by decide)
      · rw [if_neg h, if_neg h, bd_s, if_pos rfl, bn_s, bn_s, nI_inc]
        exact stop _ _ _ 1 (by decide)
    rw [e1, e8]
    by_cases h : p + k + 1 ≤ n
    · rw [if_pos h, if_pos h]
      by_cases h3 : b (p + k) = by4 lt k
      · rw [if_pos h3, if_pos h3]
        exact ih (f + 1) (k + 1) q f0 p0 K K' (by omega) (by omega)
      · rw [if_neg h3, if_neg h3]
        exact Or.inr ⟨2, nI (p + k), nI (p + k + 1), nI (k + 1), Or.inr rfl, rfl, rfl⟩
    · rw [if_neg h, if_neg h]
      exact Or.inr ⟨1, nI n, nI (p + k + 1), nI (k + 1), Or.inl rfl, rfl, rfl⟩
