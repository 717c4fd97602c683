/-! ===== what class and reference have in common between two calls ===== -/
/-- a byte of the story -/
def org (seed : Int32) (en i : Nat) : Int32 := if i < en then (((37 : Int32) * nI i + seed * (nI i / (16 : Int32) + (1 : Int32))) + nI i / (7 : Int32)) &&& (255 : Int32) else 0
theorem Byt_org (seed : Int32) (en i : Nat) : Byt (org seed en i) := by
  unfold org
  by_cases h : i < en
  · rw [if_pos h]; exact Byt_and _
  · rw [if_neg h]; exact Byt_0
def Blk (en z k : Nat) (s l : Nat → Nat) : Prop := ∀ i, i < k → en ≤ s i ∧ 1 ≤ l i ∧ l i ≤ 64 ∧ s i + l i ≤ z ∧ ∀ j, j < i → s j + l j ≤ s i
/-- two machines: the class's and the reference's -/
def Mch (en : Nat) (sz dp bl : Int32) (mem stk sts lns : Nat → Int32) (sz' dp' bl' : Int32) (mem' stk' sts' lns' : Nat → Int32) : Prop :=
  ∃ (z d k : Nat) (s l : Nat → Nat), (sz = nI z ∧ sz' = nI z) ∧ (dp = nI d ∧ dp' = nI d) ∧ (bl = nI k ∧ bl' = nI k) ∧ (en ≤ z ∧ z ≤ 512) ∧ d ≤ 40 ∧ k ≤ 8 ∧ (∀ i, i < z → mem' i = mem i ∧ Byt (mem i)) ∧ (∀ i, i < d → stk' i = stk i) ∧ (∀ i, i < k → sts i = nI (s i) ∧ lns i = nI (l i) ∧ sts' i = nI (s i) ∧ lns' i = nI (l i)) ∧ Blk en z k s l
def RSto (ram en : Nat) (i4 i5 : Int32) (r0 : Nat → Int32) (j1 j2 j3 : Int32) : Prop :=
  (16 ≤ ram ∧ ram ≤ 96) ∧ (128 ≤ en ∧ en ≤ 256) ∧ (i4 = nI ram ∧ j2 = nI ram) ∧ (i5 = nI en ∧ j3 = nI en) ∧ ∀ i, i < 512 → r0 i = org j1 en i
def RFre (en : Nat) (i9 i10 i11 : Int32) (r5 : Nat → Int32) (j1 : Int32) : Prop :=
  i9 = nI en ∧ i10 = nI 0 ∧ i11 = nI 0 ∧ ∀ i, i < 512 → r5 i = org j1 en i
def ROth (i12 : Int32) (r9 r10 r11 : Nat → Int32) (j10 : Int32) (s5 s6 s7 : Nat → Int32) : Prop :=
  ∃ (o : Nat) (n : Nat → Nat), o ≤ 4 ∧ (i12 = nI o ∧ j10 = nI o) ∧ ∀ k, k < o → n k ≤ 60 ∧ s5 k = r9 k ∧ r10 k = nI (n k) ∧ s6 k = nI (n k) ∧ ∀ i, i < n k → s7 (60 * k + i) = r11 (60 * k + i) ∧ Byt (r11 (60 * k + i))
def RFil (i13 : Int32) (r12 : Nat → Int32) (j9 : Int32) (s4 : Nat → Int32) : Prop :=
  ∃ n : Nat, n ≤ 1200 ∧ (i13 = nI n ∧ j9 = nI n) ∧ ∀ i, i < n → s4 i = r12 i ∧ Byt (r12 i)
def RPro (i0 i1 j7 j8 : Int32) : Prop :=
  ∃ g h : Nat, g ≤ 511 ∧ h ≤ 512 ∧ (i0 = nI g ∧ i1 = nI (g + h)) ∧ (j7 = nI g ∧ j8 = nI h)
def RFlt (i2 i3 j11 j12 j13 : Int32) : Prop := (i2 = 0 ∧ j11 = 0) ∨ (i2 ≠ 0 ∧ j11 = 1 ∧ j12 = i2 ∧ j13 = i3)
def MchU (en r : Nat) (sz dp bl : Int32) (mem stk sts lns : Nat → Int32) (s8 s9 s10 s11 s12 s13 s14 : Nat → Int32) : Prop :=
  Mch en sz dp bl mem stk sts lns (s8 r) (s10 r) (s12 r) (fun i => s9 (512 * r + i)) (fun i => s11 (40 * r + i)) (fun i => s13 (8 * r + i)) (fun i => s14 (8 * r + i))
def RUnd (en : Nat) (i17 i18 i19 i20 : Int32) (r14 r15 r16 r17 : Nat → Int32) (i21 i22 i23 : Int32) (r18 r19 r20 r21 : Nat → Int32) (i24 i25 i26 : Int32) (r22 r23 r24 r25 : Nat → Int32) (j14 : Int32) (s8 s9 s10 s11 s12 s13 s14 : Nat → Int32) : Prop :=
  ∃ u : Nat, u ≤ 3 ∧ (i17 = nI u ∧ j14 = nI u) ∧ (0 < u → MchU en 0 i18 i19 i20 r14 r15 r16 r17 s8 s9 s10 s11 s12 s13 s14) ∧ (1 < u → MchU en 1 i21 i22 i23 r18 r19 r20 r21 s8 s9 s10 s11 s12 s13 s14) ∧ (2 < u → MchU en 2 i24 i25 i26 r22 r23 r24 r25 s8 s9 s10 s11 s12 s13 s14)
def Rel (I : Nat → Int32) (R : Nat → Nat → Int32) (J : Nat → Int32) (S : Nat → Nat → Int32) : Prop :=
  ∃ ram en : Nat, RSto ram en (I 4) (I 5) (R 0) (J 1) (J 2) (J 3) ∧ Mch en (I 6) (I 7) (I 8) (R 1) (R 2) (R 3) (R 4) (J 4) (J 5) (J 6) (S 0) (S 1) (S 2) (S 3) ∧ RFre en (I 9) (I 10) (I 11) (R 5) (J 1) ∧ ROth (I 12) (R 9) (R 10) (R 11) (J 10) (S 5) (S 6) (S 7) ∧ RFil (I 13) (R 12) (J 9) (S 4) ∧ RPro (I 0) (I 1) (J 7) (J 8) ∧ RFlt (I 2) (I 3) (J 11) (J 12) (J 13) ∧ RUnd en (I 17) (I 18) (I 19) (I 20) (R 14) (R 15) (R 16) (R 17) (I 21) (I 22) (I 23) (R 18) (R 19) (R 20) (R 21) (I 24) (I 25) (I 26) (R 22) (R 23) (R 24) (R 25) (J 14) (S 8) (S 9) (S 10) (S 11) (S 12) (S 13) (S 14)
theorem v_orig {i en : Nat} (seed : Int32) (hi : i < 2 ^ 31) (he : en < 2 ^ 31) : f_X8_original (nI i) seed (nI en) = some (org seed en i) := by
  unfold f_X8_original org
  simp (disch := omega) only [nI_leI]
  by_cases h : i < en
  · rw [if_neg (by omega), if_pos h]
  · rw [if_pos (by omega), if_neg h]
theorem in_n (x : Int32) (a b : Int64) : f_X8_in x.toInt64 a b = some (bI (a.toInt ≤ x.toInt ∧ x.toInt ≤ b.toInt)) := by rw [v_in, tiL]
theorem v_holds (i : Int32) (j : Int64) {n : Nat} (hn : n ≤ 1200) (hj : j.toInt ≤ 4294967296) : f_X0_holds i j (nI n) = some (bI (0 ≤ i.toInt ∧ 0 ≤ j.toInt ∧ i.toInt + j.toInt ≤ n)) := by
  unfold f_X0_holds
  have hr := rgI i
  simp only [lgc_lt, lgc_gt]
  simp only [ltI, tiL, show (0 : Int64).toInt = 0 from rfl, show (0 : Int32).toInt = 0 from rfl, nI_toInt (show n < 2 ^ 31 by omega)]
  by_cases h1 : i.toInt < 0
  · rw [if_pos h1, bI_f (by omega)]
  · rw [if_neg h1]
    by_cases h2 : j.toInt < 0
    · rw [if_pos h2, bI_f (by omega)]
    · have e : (i.toInt64 + j).toInt = i.toInt + j.toInt := by
        rw [Int64.toInt_add, tiL]
        exact Int.bmod_eq_of_le (by omega) (by omega)
      rw [if_neg h2, e]
      by_cases h3 : (n : Int) < i.toInt + j.toInt
      · rw [if_pos h3, bI_f (by omega)]
      · rw [if_neg h3, bI_t (by omega)]
theorem bI_iff {p q : Prop} [Decidable p] [Decidable q] (h : p ↔ q) : bI p = bI q := by
  by_cases hp : p
  · rw [bI_t hp, bI_t (h.mp hp)]
  · rw [bI_f hp, bI_f (fun c => hp (h.mpr c))]
theorem v_holds1 (i : Int32) {n : Nat} (hn : n ≤ 1200) : f_X0_holds i (1 : Int64) (nI n) = some (bI (0 ≤ i.toInt ∧ i.toInt < n)) := by
  rw [v_holds i 1 hn (by decide)]
  congr 1
  apply bI_iff
  rw [show (1 : Int64).toInt = 1 from rfl]
  omega
theorem v_byteAt {i : Nat} (h : i < 1200) (b : Nat → Int32) : f_X0_byteAt (nI i) b = some (b i) := by
  unfold f_X0_byteAt
  simp (disch := omega) only [lt0_n, ifF, show (1200 : Int32) = nI 1200 from rfl, nI_leI, gin_n, nI_clamp]
  rw [if_neg (by omega)]
theorem v_setByte {i : Nat} (h : i < 1200) (v : Int32) (b : Nat → Int32) : f_X0_setByte (nI i) v b = some (upd b i v) := by
  unfold f_X0_setByte
  simp (disch := omega) only [lt0_n, ifF, show (1200 : Int32) = nI 1200 from rfl, nI_leI, gin_n, nI_clamp, bn_s]
  rw [if_neg (by omega)]
theorem upd_s (f : Nat → Int32) (k : Nat) (x : Int32) : upd f k x k = x := if_pos rfl
theorem upd_n {f : Nat → Int32} {k j : Nat} {x : Int32} (h : j ≠ k) : upd f k x j = f j := if_neg h
/-- an index that both tests let through -/
theorem low_hi {i : Int32} {a b : Nat} (h : (a : Int) ≤ i.toInt ∧ i.toInt < b) : ∃ n : Nat, a ≤ n ∧ n < b ∧ n < 2 ^ 31 ∧ i = nI n := by
  obtain ⟨n, hn, e⟩ := nI_ex (x := i) (by omega)
  rw [e, nI_toInt hn] at h
  exact ⟨n, by omega, by omega, hn, e⟩
