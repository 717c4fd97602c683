/-! ===== free ===== -/
/-- an array whose upper part moved down by one -/
def dwn (p q : Nat) (st : Nat → Int32) : Nat → Int32 := filo 0 p q (fun i => st (i + 1)) st
def Und2 (z0 y0 : Nat → Int32) : Nat → (Nat → Int32) → (Nat → Int32) → Prop := fun i z y => ∀ j, i ≤ j → z j = z0 j ∧ y j = y0 j
theorem Und2_s {z0 y0 g g2 : Nat → Int32} : ∀ z y i, Und2 z0 y0 i z y → Und2 z0 y0 (i + 1) (upd z (0 + i) (g i)) (upd y (0 + i) (g2 i)) := by
  intro z y i h j hj
  rw [upd_n (by omega), upd_n (by omega)]
  exact h j (by omega)
theorem l_dn8 {p q : Nat} {st ln : Nat → Int32} {K : (Nat → Int32) → (Nat → Int32) → Int32 → Option (Int32 × Int32 × Int32 × (Nat → Int32) × (Nat → Int32))} (hq : q < 8) (hp : p ≤ q) {N : Nat} (hN : 5000 ≤ N) : L_X8_free_45 (nI q) K N st ln (nI p) = K (dwn p q st) (dwn p q ln) (nI q) := by
  refine loop2 (L := L_X8_free_45 (nI q) K) (K := K) 0 q (fun i => st (i + 1)) (fun i => ln (i + 1)) (Und2 st ln) ?_ ?_ (fun z y i h _ => Und2_s (g := fun i => st (i + 1)) (g2 := fun i => ln (i + 1)) z y i h) (q - p) N p st ln (fun _ _ => ⟨rfl, rfl⟩) (by omega) (by omega)
  · intro f y y2
    show B_X8_free_45 _ _ _ _ _ _ = _
    unfold B_X8_free_45
    rw [if_pos (by rw [nI_leI (by omega) (by omega)]; omega)]
  · intro f y y2 i hp hi
    show B_X8_free_45 _ _ _ _ _ _ = _
    unfold B_X8_free_45
    rw [Nat.zero_add]
    simp (disch := omega) only [show (1 : Int32) = nI 1 from rfl, nI_inc, nI_add, nI_leI, gin_n, nI_clamp, bn_s]
    rw [if_neg (by omega), (hp (i + 1) (by omega)).1, (hp (i + 1) (by omega)).2]
theorem l_dn1 {p q : Nat} {st ln : Nat → Int32} {K : (Nat → Int32) → (Nat → Int32) → Int32 → Option (Int32 × (Nat → Int32) × (Nat → Int32) × Int32)} (hq : q < 8) (hp : p ≤ q) {N : Nat} (hN : 5000 ≤ N) : L_X1_removeBlock_33 (nI q) K N st ln (nI p) = K (dwn p q st) (dwn p q ln) (nI q) := by
  refine loop2 (L := L_X1_removeBlock_33 (nI q) K) (K := K) 0 q (fun i => st (i + 1)) (fun i => ln (i + 1)) (Und2 st ln) ?_ ?_ (fun z y i h _ => Und2_s (g := fun i => st (i + 1)) (g2 := fun i => ln (i + 1)) z y i h) (q - p) N p st ln (fun _ _ => ⟨rfl, rfl⟩) (by omega) (by omega)
  · intro f y y2
    show B_X1_removeBlock_33 _ _ _ _ _ _ = _
    unfold B_X1_removeBlock_33
    rw [if_pos (by rw [nI_leI (by omega) (by omega)]; omega)]
  · intro f y y2 i hp hi
    show B_X1_removeBlock_33 _ _ _ _ _ _ = _
    unfold B_X1_removeBlock_33
    rw [Nat.zero_add]
    simp (disch := omega) only [show (1 : Int32) = nI 1 from rfl, nI_inc, nI_add, nI_leI, gin_n, nI_clamp, bn_s]
    rw [if_neg (by omega), (hp (i + 1) (by omega)).1, (hp (i + 1) (by omega)).2]
/-- both search from the first block on -/
theorem lk_free {x : Int32} {k : Nat} {st st' ln' : Nat → Int32} (hk : k ≤ 8) (hs : ∀ i, i < k → st' i = st i) (N0 : Nat) {K : Int32 → Option (Int32 × Int32 × Int32 × (Nat → Int32) × (Nat → Int32))} {K1 : Int32 → Option Int32} : ∀ (c fuel i : Nat), i + c = k → c < fuel → (∃ p, p < k ∧ L_X1_blockAt_2 x (nI k) st K1 fuel (nI i) = some (nI p) ∧ L_X8_free_7 N0 x (nI k) st' ln' K fuel (nI i) = L_X8_free_45 (nI (k - 1)) (fun z9 z10 z11 => some (ln' p, 0, nI (k - 1), z9, z10)) N0 st' ln' (nI p)) ∨ (L_X1_blockAt_2 x (nI k) st K1 fuel (nI i) = K1 (nI k) ∧ L_X8_free_7 N0 x (nI k) st' ln' K fuel (nI i) = K (nI k)) := by
  intro c
  induction c with
  | zero =>
    intro fuel i h1 h2
    obtain ⟨f, rfl⟩ : ∃ f, fuel = f + 1 := ⟨fuel - 1, by omega⟩
    right
    show B_X1_blockAt_2 _ _ _ _ _ _ = _ ∧ B_X8_free_7 _ _ _ _ _ _ _ _ = _
    unfold B_X1_blockAt_2 B_X8_free_7
    rw [if_pos (by rw [nI_leI (by omega) (by omega)]; omega), if_pos (by rw [nI_leI (by omega) (by omega)]; omega), show i = k by omega]
    exact ⟨rfl, rfl⟩
  | succ c ih =>
    intro fuel i h1 h2
    obtain ⟨f, rfl⟩ : ∃ f, fuel = f + 1 := ⟨fuel - 1, by omega⟩
    have e1 := hs i (by omega)
    have q1 : L_X1_blockAt_2 x (nI k) st K1 (f + 1) (nI i) = if st i = x then some (nI i) else L_X1_blockAt_2 x (nI k) st K1 f (nI (i + 1)) := by
      show B_X1_blockAt_2 _ _ _ _ _ _ = _
      unfold B_X1_blockAt_2
      simp (disch := omega) only [nI_leI, gin_n, nI_clamp, bn_s, nI_inc]
      rw [if_neg (by omega)]
    have q8 : L_X8_free_7 N0 x (nI k) st' ln' K (f + 1) (nI i) = if st i = x then L_X8_free_45 (nI (k - 1)) (fun z9 z10 z11 => some (ln' i, 0, nI (k - 1), z9, z10)) N0 st' ln' (nI i) else L_X8_free_7 N0 x (nI k) st' ln' K f (nI (i + 1)) := by
      show B_X8_free_7 _ _ _ _ _ _ _ _ = _
      unfold B_X8_free_7
      simp (disch := omega) only [nI_leI, gin_n, nI_clamp, e1, bn_s, nI_inc, show nI k - (1 : Int32) = nI (k - 1) from nI_sub (a := k) (b := 1) (by omega)]
      rw [if_neg (by omega)]
    rw [q1, q8]
    by_cases h : st i = x
    · rw [if_pos h, if_pos h]
      exact Or.inl ⟨i, by omega, rfl, rfl⟩
    · rw [if_neg h, if_neg h]
      exact ih f (i + 1) (by omega) (by omega)
def del (p : Nat) (s : Nat → Nat) : Nat → Nat := fun i => if i < p then s i else s (i + 1)
theorem del_lo {p i : Nat} {s : Nat → Nat} (h : i < p) : del p s i = s i := if_pos h
theorem del_hi {p i : Nat} {s : Nat → Nat} (h : p ≤ i) : del p s i = s (i + 1) := if_neg (by omega)
theorem del_arr {k p : Nat} {st : Nat → Int32} {s : Nat → Nat} (hp : p < k) (hs : ∀ i, i < k → st i = nI (s i)) : ∀ i, i < k - 1 → dwn p (k - 1) st i = nI (del p s i) := by
  intro i hi
  unfold dwn
  by_cases h : i < p
  · rw [filo_out (by omega), del_lo h]
    exact hs i (by omega)
  · rw [del_hi (by omega)]
    unfold filo
    rw [if_pos (by omega), Nat.sub_zero]
    exact hs (i + 1) (by omega)
theorem Blk_del {en z k p : Nat} {s l : Nat → Nat} (hB : Blk en z k s l) (hp : p < k) : Blk en z (k - 1) (del p s) (del p l) := by
  intro i hi
  by_cases h : i < p
  · rw [del_lo h, del_lo h]
    obtain ⟨q1, q2, q3, q4, q5⟩ := hB i (by omega)
    refine ⟨q1, q2, q3, q4, fun j hj => ?_⟩
    rw [del_lo (by omega), del_lo (by omega)]
    exact q5 j hj
  · rw [del_hi (by omega), del_hi (by omega)]
    obtain ⟨q1, q2, q3, q4, q5⟩ := hB (i + 1) (by omega)
    refine ⟨q1, q2, q3, q4, fun j hj => ?_⟩
    by_cases h2 : j < p
    · rw [del_lo h2, del_lo h2]
      exact q5 j (by omega)
    · rw [del_hi (by omega), del_hi (by omega)]
      exact q5 (j + 1) (by omega)
theorem ok_free {N : Nat} (hN : 5000 ≤ N) : pm_free Rel N := by
  intro I R J S i1 ⟨ram, en, hS, hM, hF, hO, hB, hP, hL, hU⟩
  obtain ⟨z, d, k, s, l, ⟨z1, z2⟩, ed, ⟨b1, b2⟩, hz, hd, hk, hm, hst, hbl, hB2⟩ := id hM
  have hM' : Rel (va_up I 8 (nI k)) (va_up (va_up R 3 (R 3)) 4 (R 4)) (va_up (va_up J 0 0) 6 (nI k)) (va_up (va_up S 2 (S 2)) 3 (S 3)) := ⟨ram, en, hS, ⟨z, d, k, s, l, ⟨z1, z2⟩, ed, ⟨rfl, rfl⟩, hz, hd, hk, hm, hst, hbl, hB2⟩, hF, hO, hB, hP, hL, hU⟩
  have : rel2 (f_X7_free N i1 (I 8) (R 3) (R 4)) (f_X8_free N i1 (J 6) (S 2) (S 3)) (fun a b => a.1 = b.1 ∧ Rel (va_up I 8 a.2.2.2) (va_up (va_up R 3 a.2.1) 4 a.2.2.1) (va_up (va_up J 0 b.2.1) 6 b.2.2.1) (va_up (va_up S 2 b.2.2.2.1) 3 b.2.2.2.2)) := by
    unfold f_X7_free f_X8_free f_X1_blockAt
    rw [b1, b2, show (0 : Int32) = nI 0 from rfl]
    rcases lk_free (x := i1) (k := k) (st := R 3) (st' := S 2) (ln' := S 3) hk (fun i hi => by rw [(hbl i hi).1, (hbl i hi).2.2.1]) N (K := fun z1 => some ((-1 : Int32), nI 0, nI k, S 2, S 3)) (K1 := fun z1 => some (-1 : Int32)) k N 0 (by omega) (by omega) with ⟨p, hp, e1, e2⟩ | ⟨e1, e2⟩
    · rw [e1, e2, bd_s]
      unfold f_X1_removeBlock
      rw [show nI 0 = (0 : Int32) from rfl]
      simp (disch := omega) only [show (1 : Int32) = nI 1 from rfl, nI_sub, ge0_n, lt0_n, nI_ltI, gin_n, nI_clamp, bn_s, ifT, ifF]
      rw [if_pos hp, l_dn1 (by omega) (by omega) hN, l_dn8 (by omega) (by omega) hN, bd_s]
      refine rel2_s ⟨by rw [(hbl p hp).2.1, (hbl p hp).2.2.2], ram, en, hS, ⟨z, d, k - 1, del p s, del p l, ⟨z1, z2⟩, ed, ⟨rfl, rfl⟩, hz, hd, by omega, hm, hst, ?_, Blk_del hB2 hp⟩, hF, hO, hB, hP, hL, hU⟩
      intro i hi
      exact ⟨del_arr hp (fun i hi => (hbl i hi).1) i hi, del_arr hp (fun i hi => (hbl i hi).2.1) i hi, del_arr hp (fun i hi => (hbl i hi).2.2.1) i hi, del_arr hp (fun i hi => (hbl i hi).2.2.2) i hi⟩
    · rw [e1, e2, bd_s, if_neg (show ¬ nI 0 ≤ -1 by decide)]
      exact rel2_s ⟨rfl, hM'⟩
  obtain ⟨⟨r, o0, o1, o2⟩, ⟨r', q0, q1, q2, q3⟩, h1, h2, rfl, h4⟩ := this
  exact ⟨_, _, _, _, _, _, _, _, h1, h2, h4⟩
