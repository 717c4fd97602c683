/-! ===== block, free ===== -/
theorem v_isLen (x : Int32) : f_X7_isBlockLength x = some (bI (1 ≤ x.toInt ∧ x.toInt ≤ 64)) := by
  unfold f_X7_isBlockLength
  simp only [ltI, show (1 : Int32).toInt = 1 from rfl, show (64 : Int32).toInt = 64 from rfl]
  by_cases h1 : x.toInt < 1
  · rw [if_pos h1, bI_f (by omega)]
  · rw [if_neg h1]
    by_cases h2 : 64 < x.toInt
    · rw [if_pos h2, bI_f (by omega)]
    · rw [if_neg h2, bI_t (by omega)]
/-- where a new block goes -/
def Gap (k a b p : Nat) (s l : Nat → Nat) : Prop := p ≤ k ∧ (∀ i, i < p → s i + l i ≤ a) ∧ (∀ i, p ≤ i → i < k → a + b ≤ s i)
theorem Gap_ex {en z a b : Nat} {s l : Nat → Nat} (hb : 1 ≤ b) : ∀ k, Blk en z k s l → (∀ i, i < k → s i + l i ≤ a ∨ a + b ≤ s i) → ∃ p, Gap k a b p s l := by
  intro k
  induction k with
  | zero => intro _ _; exact ⟨0, Nat.le_refl _, fun i hi => absurd hi (by omega), fun i _ hi => absurd hi (by omega)⟩
  | succ k ih =>
    intro hB h
    obtain ⟨p, hp, h1, h2⟩ := ih (fun i hi => hB i (by omega)) (fun i hi => h i (by omega))
    rcases h k (by omega) with h3 | h3
    · refine ⟨k + 1, Nat.le_refl _, ?_, fun i hi hi2 => absurd hi (by omega)⟩
      intro i hi
      by_cases h4 : i = k
      · rw [h4]; exact h3
      · have q := (hB k (by omega)).2.2.2.2 i (by omega)
        omega
    · refine ⟨p, by omega, h1, ?_⟩
      intro i hi hi2
      by_cases h4 : i = k
      · rw [h4]; exact h3
      · exact h2 i hi (by omega)
/-- the class's test against each block -/
theorem l_fits {a b k : Nat} {st ln : Nat → Int32} {s l : Nat → Nat} {K : Int32 → Option Int32} (hab : a + b ≤ 2000) (hk : k ≤ 8) (hs : ∀ i, i < k → st i = nI (s i) ∧ ln i = nI (l i) ∧ s i + l i ≤ 512) : ∀ (c fuel i : Nat), i + c = k → c < fuel → ((∀ j, i ≤ j → j < k → s j + l j ≤ a ∨ a + b ≤ s j) → L_X1_fits_27 (nI a) (nI b) (nI k) st ln K fuel (nI i) = K (nI k)) ∧ ((∃ j, i ≤ j ∧ j < k ∧ ¬ (s j + l j ≤ a ∨ a + b ≤ s j)) → L_X1_fits_27 (nI a) (nI b) (nI k) st ln K fuel (nI i) = some 0) := by
  intro c
  induction c with
  | zero =>
    intro fuel i h1 h2
    obtain ⟨f, rfl⟩ : ∃ f, fuel = f + 1 := ⟨fuel - 1, by omega⟩
    refine ⟨fun _ => ?_, fun ⟨j, h3, h4, _⟩ => absurd h3 (by omega)⟩
    show B_X1_fits_27 _ _ _ _ _ _ _ _ = _
    unfold B_X1_fits_27
    rw [if_pos (by rw [nI_leI (by omega) (by omega)]; omega), show i = k by omega]
  | succ c ih =>
    intro fuel i h1 h2
    obtain ⟨f, rfl⟩ : ∃ f, fuel = f + 1 := ⟨fuel - 1, by omega⟩
    obtain ⟨e1, e2, e3⟩ := hs i (by omega)
    have stp : L_X1_fits_27 (nI a) (nI b) (nI k) st ln K (f + 1) (nI i) = if s i + l i ≤ a ∨ a + b ≤ s i then L_X1_fits_27 (nI a) (nI b) (nI k) st ln K f (nI (i + 1)) else some 0 := by
      show B_X1_fits_27 _ _ _ _ _ _ _ _ = _
      unfold B_X1_fits_27 J_X1_fits_70
      simp (disch := omega) only [nI_leI, gin_n, nI_clamp, e1, e2, nI_add, bn_s, nI_inc]
      rw [if_neg (by omega)]
      by_cases h3 : s i + l i ≤ a
      · rw [if_pos h3, if_pos (Or.inl h3)]
      · rw [if_neg h3]
        by_cases h4 : a + b ≤ s i
        · rw [if_pos h4, if_pos (Or.inr h4)]
        · rw [if_neg h4, if_neg (by omega)]
    rw [stp]
    constructor
    · intro h
      rw [if_pos (h i (Nat.le_refl _) (by omega))]
      exact (ih f (i + 1) (by omega) (by omega)).1 (fun j h3 h4 => h j (by omega) h4)
    · intro ⟨j, h3, h4, h5⟩
      by_cases h6 : s i + l i ≤ a ∨ a + b ≤ s i
      · rw [if_pos h6]
        refine (ih f (i + 1) (by omega) (by omega)).2 ⟨j, ?_, h4, h5⟩
        rcases Nat.lt_or_ge i j with h7 | h7
        · omega
        · have : i = j := by omega
          subst this
          exact absurd h6 h5
      · rw [if_neg h6]
theorem l_cntNo {a b k : Nat} {st ln : Nat → Int32} {s l : Nat → Nat} {K : Int32 → Int32 → Option (Int32 × Int32 × Int32 × (Nat → Int32) × (Nat → Int32))} (hab : a + b ≤ 2000) (hk : k ≤ 8) (hs : ∀ i, i < k → st i = nI (s i) ∧ ln i = nI (l i) ∧ s i + l i ≤ 512) : ∀ (c fuel i : Nat) (y : Int32), i + c = k → c < fuel → (∃ j, i ≤ j ∧ j < k ∧ ¬ (s j + l j ≤ a ∨ a + b ≤ s j)) → L_X8_block_48 (nI a) (nI b) (nI k) st ln K fuel y (nI i) = some (-3, 0, nI k, st, ln) := by
  intro c
  induction c with
  | zero =>
    intro fuel i y h1 h2 ⟨j, h3, h4, _⟩
    exact absurd h3 (by omega)
  | succ c ih =>
    intro fuel i y h1 h2 ⟨j, h3, h4, h5⟩
    obtain ⟨f, rfl⟩ : ∃ f, fuel = f + 1 := ⟨fuel - 1, by omega⟩
    obtain ⟨e1, e2, e3⟩ := hs i (by omega)
    show B_X8_block_48 _ _ _ _ _ _ _ _ _ = _
    unfold B_X8_block_48 J_X8_block_92 J_X8_block_109
    simp (disch := omega) only [nI_leI, gin_n, nI_clamp, e1, e2, nI_add, bn_s, nI_inc]
    rw [if_neg (by omega)]
    have nx : ∀ y2, (s i + l i ≤ a ∨ a + b ≤ s i) → L_X8_block_48 (nI a) (nI b) (nI k) st ln K f y2 (nI (i + 1)) = some (-3, 0, nI k, st, ln) := by
      intro y2 h6
      refine ih f (i + 1) y2 (by omega) (by omega) ⟨j, ?_, h4, h5⟩
      rcases Nat.lt_or_ge i j with h7 | h7
      · omega
      · have : i = j := by omega
        subst this
        exact absurd h6 h5
    by_cases h6 : s i + l i ≤ a
    · rw [if_pos h6, nx _ (Or.inl h6), nx _ (Or.inl h6)]
      by_cases h7 : a ≤ s i
      · rw [if_pos h7]
      · rw [if_neg h7]
    · rw [if_neg h6]
      by_cases h7 : a + b ≤ s i
      · rw [if_pos h7, nx _ (Or.inr h7), nx _ (Or.inr h7)]
        by_cases h8 : a ≤ s i
        · rw [if_pos h8]
        · rw [if_neg h8]
      · rw [if_neg h7]
theorem l_cnt {a b k p : Nat} {st ln : Nat → Int32} {s l : Nat → Nat} {K : Int32 → Int32 → Option (Int32 × Int32 × Int32 × (Nat → Int32) × (Nat → Int32))} (hab : a + b ≤ 2000) (hb : 1 ≤ b) (hk : k ≤ 8) (hs : ∀ i, i < k → st i = nI (s i) ∧ ln i = nI (l i) ∧ s i + l i ≤ 512 ∧ 1 ≤ l i) (hG : Gap k a b p s l) : ∀ (c fuel i : Nat), i + c = k → c < fuel → L_X8_block_48 (nI a) (nI b) (nI k) st ln K fuel (nI (min i p)) (nI i) = K (nI p) (nI k) := by
  obtain ⟨g1, g2, g3⟩ := hG
  intro c
  induction c with
  | zero =>
    intro fuel i h1 h2
    obtain ⟨f, rfl⟩ : ∃ f, fuel = f + 1 := ⟨fuel - 1, by omega⟩
    show B_X8_block_48 _ _ _ _ _ _ _ _ _ = _
    unfold B_X8_block_48
    rw [if_pos (by rw [nI_leI (by omega) (by omega)]; omega), show i = k by omega, Nat.min_eq_right g1]
  | succ c ih =>
    intro fuel i h1 h2
    obtain ⟨f, rfl⟩ : ∃ f, fuel = f + 1 := ⟨fuel - 1, by omega⟩
    obtain ⟨e1, e2, e3, e4⟩ := hs i (by omega)
    have ih2 := ih f (i + 1) (by omega) (by omega)
    show B_X8_block_48 _ _ _ _ _ _ _ _ _ = _
    unfold B_X8_block_48 J_X8_block_92 J_X8_block_109
    simp (disch := omega) only [nI_leI, gin_n, nI_clamp, e1, e2, nI_add, bn_s, nI_inc]
    rw [if_neg (by omega)]
    by_cases h3 : i < p
    · have := g2 i h3
      rw [if_pos this, if_neg (by omega)]
      rw [Nat.min_eq_left (by omega)] at ih2 ⊢
      exact ih2
    · have := g3 i (by omega) (by omega)
      rw [if_neg (by omega), if_pos this, if_pos (by omega)]
      rw [Nat.min_eq_right (by omega)] at ih2 ⊢
      rw [show nI p + (0 : Int32) = nI p from Int32.add_zero _]
      exact ih2
/-- an array while its upper part moves up by one -/
def shf (j k : Nat) (st : Nat → Int32) : Nat → Int32 := fun x => if j < x ∧ x ≤ k then st (x - 1) else st x
theorem shf_e (k : Nat) (st : Nat → Int32) : shf k k st = st := by
  funext x
  exact if_neg (by omega)
theorem shf_lo {j k x : Nat} {st : Nat → Int32} (h : x ≤ j) : shf j k st x = st x := if_neg (by omega)
theorem shf_st {j k : Nat} {st : Nat → Int32} (h : j + 1 ≤ k) : upd (shf (j + 1) k st) (j + 1) (st j) = shf j k st := by
  funext x
  unfold shf
  by_cases e : x = j + 1
  · rw [e, upd_s, if_pos (by omega)]
    rfl
  · rw [upd_n e]
    by_cases h2 : j + 1 < x ∧ x ≤ k
    · rw [if_pos h2, if_pos (by omega)]
    · rw [if_neg h2, if_neg (by omega)]
theorem nI_dec1 (j : Nat) : nI (j + 1) + (-1) = nI j := nI_dec j
theorem l_up8 {k p : Nat} {st ln : Nat → Int32} {K : (Nat → Int32) → (Nat → Int32) → Int32 → Option (Int32 × Int32 × Int32 × (Nat → Int32) × (Nat → Int32))} (hk : k < 8) : ∀ (c fuel j : Nat), j = p + c → j ≤ k → c < fuel → L_X8_block_135 (nI p) K fuel (shf j k st) (shf j k ln) (nI j) = K (shf p k st) (shf p k ln) (nI p) := by
  intro c
  induction c with
  | zero =>
    intro fuel j h1 h2 h3
    obtain ⟨f, rfl⟩ : ∃ f, fuel = f + 1 := ⟨fuel - 1, by omega⟩
    show B_X8_block_135 _ _ _ _ _ _ = _
    unfold B_X8_block_135
    rw [if_pos (by rw [nI_leI (by omega) (by omega)]; omega), show j = p by omega]
  | succ c ih =>
    intro fuel j h1 h2 h3
    obtain ⟨f, rfl⟩ : ∃ f, fuel = f + 1 := ⟨fuel - 1, by omega⟩
    obtain ⟨j, rfl⟩ : ∃ q, j = q + 1 := ⟨j - 1, by omega⟩
    show B_X8_block_135 _ _ _ _ _ _ = _
    unfold B_X8_block_135
    rw [nI_dec1 j]
    simp (disch := omega) only [show (1 : Int32) = nI 1 from rfl, nI_sub, nI_leI, gin_n, nI_clamp, bn_s, Nat.add_sub_cancel, shf_lo, shf_st]
    rw [if_neg (by omega)]
    exact ih f j (by omega) (by omega) (by omega)
theorem l_up1 {k p a b : Nat} {st ln : Nat → Int32} {s l : Nat → Nat} {K : (Nat → Int32) → (Nat → Int32) → Int32 → Option (Int32 × (Nat → Int32) × (Nat → Int32) × Int32)} (ha : a + b ≤ 2000) (hb : 1 ≤ b) (hk : k < 8) (hs : ∀ i, i < k → st i = nI (s i) ∧ s i + l i ≤ 512) (hG : Gap k a b p s l) : ∀ (c fuel j : Nat), j = p + c → j ≤ k → c < fuel → L_X1_addBlock_16 (nI a) K fuel (shf j k st) (shf j k ln) (nI j) = K (shf p k st) (shf p k ln) (nI p) := by
  obtain ⟨g1, g2, g3⟩ := hG
  intro c
  induction c with
  | zero =>
    intro fuel j h1 h2 h3
    obtain ⟨f, rfl⟩ : ∃ f, fuel = f + 1 := ⟨fuel - 1, by omega⟩
    obtain rfl : j = p := by omega
    show B_X1_addBlock_16 _ _ _ _ _ _ = _
    unfold B_X1_addBlock_16
    simp (disch := omega) only [le0_n]
    by_cases h0 : j = 0
    · rw [if_pos h0]
    · rw [if_neg h0]
      obtain ⟨q, rfl⟩ : ∃ q, j = q + 1 := ⟨j - 1, by omega⟩
      have := g2 q (by omega)
      have hq := hs q (by omega)
      simp (disch := omega) only [show (1 : Int32) = nI 1 from rfl, nI_sub, gin_n, nI_clamp, Nat.add_sub_cancel, shf_lo, hq.1, nI_leI]
      rw [if_pos (by omega)]
  | succ c ih =>
    intro fuel j h1 h2 h3
    obtain ⟨f, rfl⟩ : ∃ f, fuel = f + 1 := ⟨fuel - 1, by omega⟩
    obtain ⟨j, rfl⟩ : ∃ q, j = q + 1 := ⟨j - 1, by omega⟩
    have := g3 j (by omega) (by omega)
    have hq := hs j (by omega)
    have ih2 := ih f j (by omega) (by omega) (by omega)
    show B_X1_addBlock_16 _ _ _ _ _ _ = _
    unfold B_X1_addBlock_16
    rw [nI_dec1 j]
    have e1 : shf (j + 1) k st j = nI (s j) := by rw [shf_lo (by omega), hq.1]
    have e2 : shf (j + 1) k ln j = ln j := shf_lo (by omega)
    simp (disch := omega) only [show (1 : Int32) = nI 1 from rfl, nI_sub, le0_n, gin_n, nI_clamp, bn_s, Nat.add_sub_cancel, e1, e2, nI_leI]
    rw [if_neg (by omega), if_neg (by omega), ← hq.1, shf_st (by omega), shf_st (by omega)]
    exact ih2
def ins (p : Nat) (a : Nat) (s : Nat → Nat) : Nat → Nat := fun i => if i < p then s i else if i = p then a else s (i - 1)
theorem ins_lo {p a i : Nat} {s : Nat → Nat} (h : i < p) : ins p a s i = s i := if_pos h
theorem ins_at {p a : Nat} {s : Nat → Nat} : ins p a s p = a := by
  unfold ins
  rw [if_neg (by omega), if_pos rfl]
theorem ins_hi {p a i : Nat} {s : Nat → Nat} (h : p < i) : ins p a s i = s (i - 1) := by
  unfold ins
  rw [if_neg (by omega), if_neg (by omega)]
theorem Blk_ins {en z k a b p : Nat} {s l : Nat → Nat} (hB : Blk en z k s l) (hG : Gap k a b p s l) (h1 : en ≤ a) (h2 : 1 ≤ b) (h3 : b ≤ 64) (h4 : a + b ≤ z) : Blk en z (k + 1) (ins p a s) (ins p b l) := by
  obtain ⟨g1, g2, g3⟩ := hG
  intro i hi
  rcases Nat.lt_trichotomy i p with h | h | h
  · rw [ins_lo h, ins_lo h]
    obtain ⟨q1, q2, q3, q4, q5⟩ := hB i (by omega)
    refine ⟨q1, q2, q3, q4, fun j hj => ?_⟩
    rw [ins_lo (by omega), ins_lo (by omega)]
    exact q5 j hj
  · subst h
    rw [ins_at, ins_at]
    refine ⟨h1, h2, h3, h4, fun j hj => ?_⟩
    rw [ins_lo hj, ins_lo hj]
    exact g2 j hj
  · rw [ins_hi h, ins_hi h]
    obtain ⟨q1, q2, q3, q4, q5⟩ := hB (i - 1) (by omega)
    refine ⟨q1, q2, q3, q4, fun j hj => ?_⟩
    rcases Nat.lt_trichotomy j p with h5 | h5 | h5
    · rw [ins_lo h5, ins_lo h5]
      exact q5 j (by omega)
    · subst h5
      rw [ins_at, ins_at]
      exact g3 (i - 1) (by omega) (by omega)
    · rw [ins_hi h5, ins_hi h5]
      exact q5 (j - 1) (by omega)
theorem ins_arr {k p a : Nat} {st : Nat → Int32} {s : Nat → Nat} (hp : p ≤ k) (hs : ∀ i, i < k → st i = nI (s i)) : ∀ i, i < k + 1 → upd (shf p k st) p (nI a) i = nI (ins p a s i) := by
  intro i hi
  rcases Nat.lt_trichotomy i p with h | h | h
  · rw [upd_n (by omega), shf_lo (by omega), ins_lo h]
    exact hs i (by omega)
  · subst h
    rw [upd_s, ins_at]
  · rw [upd_n (by omega), ins_hi h]
    unfold shf
    rw [if_pos (by omega)]
    exact hs (i - 1) (by omega)
theorem ok_block {N : Nat} (hN : 5000 ≤ N) : pm_block Rel N := by
  intro I R J S i1 i2 ⟨ram, en, hS, hM, hF, hO, hB, hP, hL, hU⟩
  obtain ⟨z, d, k, s, l, ⟨z1, z2⟩, ed, ⟨b1, b2⟩, hz, hd, hk, hm, hst, hbl, hB2⟩ := id hM
  obtain ⟨hr, he, ⟨er, er'⟩, ⟨ee, ee'⟩, ho⟩ := id hS
  have hM' : Rel (va_up I 8 (nI k)) (va_up (va_up R 3 (R 3)) 4 (R 4)) (va_up (va_up J 0 0) 6 (nI k)) (va_up (va_up S 2 (S 2)) 3 (S 3)) := ⟨ram, en, hS, ⟨z, d, k, s, l, ⟨z1, z2⟩, ed, ⟨rfl, rfl⟩, hz, hd, hk, hm, hst, hbl, hB2⟩, hF, hO, hB, hP, hL, hU⟩
  have : rel2 (f_X7_block N i1 i2 (I 5) (I 6) (I 8) (R 3) (R 4)) (f_X8_block N i1 i2 (J 3) (J 4) (J 6) (S 2) (S 3)) (fun a b => a.1 = b.1 ∧ Rel (va_up I 8 a.2.2.2) (va_up (va_up R 3 a.2.1) 4 a.2.2.1) (va_up (va_up J 0 b.2.1) 6 b.2.2.1) (va_up (va_up S 2 b.2.2.2.1) 3 b.2.2.2.2)) := by
    unfold f_X7_block f_X8_block
    rw [ee, ee', z1, z2, b1, b2, v_isLen, in_n, bd_s, bd_s]
    simp only [bI_0, show (1 : Int64).toInt = 1 from rfl, show (64 : Int64).toInt = 64 from rfl]
    by_cases h : (1 : Int) ≤ i2.toInt ∧ i2.toInt ≤ 64
    · rw [if_neg (not_not_intro h), if_neg (not_not_intro h)]
      obtain ⟨b, hb1, hb2, hb3, rfl⟩ := low_hi (i := i2) (a := 1) (b := 65) (by omega)
      unfold f_X1_fits
      rw [in_n, bd_s, v_isLen, bd_s, nI_sub (by omega), tiL, tiL, nI_toInt (show en < 2 ^ 31 by omega), nI_toInt (show z - b < 2 ^ 31 by omega)]
      simp only [bI_0]
      by_cases h2 : (en : Int) ≤ i1.toInt ∧ i1.toInt ≤ ((z - b : Nat) : Int)
      · rw [if_neg (not_not_intro h2)]
        obtain ⟨a, ha1, ha2, ha3, rfl⟩ := low_hi (i := i1) (a := en) (b := z - b + 1) (by omega)
        simp (disch := omega) only [nI_ltI, nI_leI]
        rw [if_neg (show ¬ a < en by omega), if_neg (not_not_intro h), if_pos (show a ≤ z - b by omega)]
        by_cases hov : ∀ i, i < k → s i + l i ≤ a ∨ a + b ≤ s i
        · obtain ⟨p, hG⟩ := Gap_ex (by omega) k hB2 hov
          rw [show (0 : Int32) = nI 0 from rfl, (l_fits (by omega) hk (fun i hi => ⟨(hbl i hi).1, (hbl i hi).2.1, by have := (hB2 i hi).2.2.2.1; omega⟩) k N 0 (by omega) (by omega)).1 (fun j _ hj => hov j hj), bd_s]
          have lc := fun K => l_cnt (K := K) (by omega) (by omega) hk (fun i hi => ⟨(hbl i hi).2.2.1, (hbl i hi).2.2.2, by have := (hB2 i hi).2.2.2.1; omega, (hB2 i hi).2.1⟩) hG k N 0 (by omega) (by omega)
          rw [Nat.zero_min] at lc
          rw [lc]
          rw [if_neg (show ¬ (1 : Int32) = nI 0 by decide)]
          unfold f_X1_addBlock
          simp (disch := omega) only [show (8 : Int32) = nI 8 from rfl, nI_ltI, nI_eq]
          by_cases h8 : k < 8
          · rw [if_pos h8, if_neg (by omega)]
            have u1 := fun K => l_up1 (k := k) (p := p) (st := R 3) (ln := R 4) (K := K) (by omega) (by omega) h8 (fun i hi => ⟨(hbl i hi).1, by have := (hB2 i hi).2.2.2.1; omega⟩) hG (k - p) N k (by have := hG.1; omega) (Nat.le_refl _) (by omega)
            have u8 := fun K => l_up8 (k := k) (p := p) (st := S 2) (ln := S 3) (K := K) h8 (k - p) N k (by have := hG.1; omega) (Nat.le_refl _) (by omega)
            have hp := hG.1
            simp only [shf_e] at u1 u8
            rw [u1, u8]
            simp (disch := omega) only [show (1 : Int32) = nI 1 from rfl, gin_n, nI_clamp, bn_s, bd_s, nI_add]
            rw [if_neg (show ¬ nI 1 = nI 0 by decide)]
            refine rel2_s ⟨rfl, ram, en, hS, ⟨z, d, k + 1, ins p a s, ins p b l, ⟨z1, z2⟩, ed, ⟨rfl, rfl⟩, hz, hd, by omega, hm, hst, ?_, Blk_ins hB2 hG ha1 hb1 (by omega) (by omega)⟩, hF, hO, hB, hP, hL, hU⟩
            intro i hi
            exact ⟨ins_arr hp (fun i hi => (hbl i hi).1) i hi, ins_arr hp (fun i hi => (hbl i hi).2.1) i hi, ins_arr hp (fun i hi => (hbl i hi).2.2.1) i hi, ins_arr hp (fun i hi => (hbl i hi).2.2.2) i hi⟩
          · rw [if_neg h8, if_pos (by omega), bd_s, if_pos (show (0 : Int32) = nI 0 from rfl)]
            exact rel2_s ⟨rfl, hM'⟩
        · have hex : ∃ j, 0 ≤ j ∧ j < k ∧ ¬ (s j + l j ≤ a ∨ a + b ≤ s j) := by
            apply Classical.byContradiction
            intro hc
            exact hov (fun i hi => Classical.byContradiction (fun h9 => hc ⟨i, by omega, hi, h9⟩))
          rw [show (0 : Int32) = nI 0 from rfl, (l_fits (by omega) hk (fun i hi => ⟨(hbl i hi).1, (hbl i hi).2.1, by have := (hB2 i hi).2.2.2.1; omega⟩) k N 0 (by omega) (by omega)).2 hex, bd_s, if_pos (show (0 : Int32) = nI 0 from rfl), l_cntNo (by omega) hk (fun i hi => ⟨(hbl i hi).2.2.1, (hbl i hi).2.2.2, by have := (hB2 i hi).2.2.2.1; omega⟩) k N 0 _ (by omega) (by omega) hex]
          exact rel2_s ⟨rfl, hM'⟩
      · rw [if_pos h2]
        simp only [ltI, leI, nI_toInt (show en < 2 ^ 31 by omega), nI_toInt (show z - b < 2 ^ 31 by omega)]
        by_cases h3 : i1.toInt < en
        · rw [if_pos h3, bd_s, if_pos rfl]
          exact rel2_s ⟨rfl, hM'⟩
        · rw [if_neg h3, if_neg (not_not_intro h), if_neg (by omega), bd_s, if_pos rfl]
          exact rel2_s ⟨rfl, hM'⟩
    · rw [if_pos h, if_pos h]
      exact rel2_s ⟨rfl, hM'⟩
  obtain ⟨⟨r, o0, o1, o2⟩, ⟨r', q0, q1, q2, q3⟩, h1, h2, rfl, h4⟩ := this
  exact ⟨_, _, _, _, _, _, _, _, h1, h2, h4⟩
