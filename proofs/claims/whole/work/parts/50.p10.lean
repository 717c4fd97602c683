/-! ===== mark ===== -/
theorem l_moveA {b : Nat} {m0 : Nat → Int32} {K : (Nat → Int32) → Int32 → Option ((Nat → Int32) × (Nat → Int32) × (Nat → Int32) × (Nat → Int32) × (Nat → Int32) × (Nat → Int32) × (Nat → Int32))} (hb : b < 2) {N : Nat} (hN : 5000 ≤ N) : L_X8_move_38 (nI (b + 1)) (nI b) K N m0 0 = K (filo (512 * b) 0 512 (fun i => m0 (512 * (b + 1) + i)) m0) (nI 512) := by
  refine loop1 (L := L_X8_move_38 (nI (b + 1)) (nI b) K) (K := K) (512 * b) 512 (fun i => m0 (512 * (b + 1) + i)) (fun _ z => ∀ j, 512 * (b + 1) ≤ j → z j = m0 j) ?_ ?_ (fun z i h hi j hj => by rw [upd_n (by omega)]; exact h j hj) 512 N 0 m0 (fun _ _ => rfl) (by omega) (by omega)
  · intro f y
    show B_X8_move_38 _ _ _ _ _ _ = _
    unfold B_X8_move_38
    rw [if_pos (by decide)]
  · intro f y i hp hi
    show B_X8_move_38 _ _ _ _ _ _ = _
    unfold B_X8_move_38
    simp (disch := omega) only [show (512 : Int32) = nI 512 from rfl, show (1 : Int32) = nI 1 from rfl, nI_mul, nI_inc, nI_add, nI_leI, gin_n, nI_clamp, bn_s]
    rw [if_neg (by omega), hp _ (by omega)]
theorem l_moveB {b : Nat} {m0 : Nat → Int32} {K : (Nat → Int32) → Int32 → Option ((Nat → Int32) × (Nat → Int32) × (Nat → Int32) × (Nat → Int32) × (Nat → Int32) × (Nat → Int32) × (Nat → Int32))} (hb : b < 2) {N : Nat} (hN : 5000 ≤ N) : L_X8_move_77 (nI (b + 1)) (nI b) K N m0 0 = K (filo (40 * b) 0 40 (fun i => m0 (40 * (b + 1) + i)) m0) (nI 40) := by
  refine loop1 (L := L_X8_move_77 (nI (b + 1)) (nI b) K) (K := K) (40 * b) 40 (fun i => m0 (40 * (b + 1) + i)) (fun _ z => ∀ j, 40 * (b + 1) ≤ j → z j = m0 j) ?_ ?_ (fun z i h hi j hj => by rw [upd_n (by omega)]; exact h j hj) 40 N 0 m0 (fun _ _ => rfl) (by omega) (by omega)
  · intro f y
    show B_X8_move_77 _ _ _ _ _ _ = _
    unfold B_X8_move_77
    rw [if_pos (by decide)]
  · intro f y i hp hi
    show B_X8_move_77 _ _ _ _ _ _ = _
    unfold B_X8_move_77
    simp (disch := omega) only [show (40 : Int32) = nI 40 from rfl, show (1 : Int32) = nI 1 from rfl, nI_mul, nI_inc, nI_add, nI_leI, gin_n, nI_clamp, bn_s]
    rw [if_neg (by omega), hp _ (by omega)]
theorem l_moveC {b : Nat} {m0 m1 : Nat → Int32} {K : (Nat → Int32) → (Nat → Int32) → Int32 → Option ((Nat → Int32) × (Nat → Int32) × (Nat → Int32) × (Nat → Int32) × (Nat → Int32) × (Nat → Int32) × (Nat → Int32))} (hb : b < 2) {N : Nat} (hN : 5000 ≤ N) : L_X8_move_113 (nI (b + 1)) (nI b) K N m0 m1 0 = K (filo (8 * b) 0 8 (fun i => m0 (8 * (b + 1) + i)) m0) (filo (8 * b) 0 8 (fun i => m1 (8 * (b + 1) + i)) m1) (nI 8) := by
  refine loop2 (L := L_X8_move_113 (nI (b + 1)) (nI b) K) (K := K) (8 * b) 8 (fun i => m0 (8 * (b + 1) + i)) (fun i => m1 (8 * (b + 1) + i)) (fun _ z y => ∀ j, 8 * (b + 1) ≤ j → z j = m0 j ∧ y j = m1 j) ?_ ?_ (fun z y i h hi j hj => by rw [upd_n (by omega), upd_n (by omega)]; exact h j hj) 8 N 0 m0 m1 (fun _ _ => ⟨rfl, rfl⟩) (by omega) (by omega)
  · intro f y y2
    show B_X8_move_113 _ _ _ _ _ _ _ = _
    unfold B_X8_move_113
    rw [if_pos (by decide)]
  · intro f y y2 i hp hi
    show B_X8_move_113 _ _ _ _ _ _ _ = _
    unfold B_X8_move_113
    simp (disch := omega) only [show (8 : Int32) = nI 8 from rfl, show (1 : Int32) = nI 1 from rfl, nI_mul, nI_inc, nI_add, nI_leI, gin_n, nI_clamp, bn_s]
    rw [if_neg (by omega), (hp _ (by omega)).1, (hp _ (by omega)).2]
theorem v_move {b : Nat} (hb : b < 2) {N : Nat} (hN : 5000 ≤ N) (s8 s10 s12 s9 s11 s13 s14 : Nat → Int32) : f_X8_move N (nI (b + 1)) (nI b) s8 s10 s12 s9 s11 s13 s14 = some (upd s8 b (s8 (b + 1)), filo (512 * b) 0 512 (fun i => s9 (512 * (b + 1) + i)) s9, upd s10 b (s10 (b + 1)), filo (40 * b) 0 40 (fun i => s11 (40 * (b + 1) + i)) s11, upd s12 b (s12 (b + 1)), filo (8 * b) 0 8 (fun i => s13 (8 * (b + 1) + i)) s13, filo (8 * b) 0 8 (fun i => s14 (8 * (b + 1) + i)) s14) := by
  unfold f_X8_move
  simp (disch := omega) only [gin_n, nI_clamp, bn_s]
  rw [l_moveA hb hN]
  rw [l_moveB hb hN]
  rw [l_moveC hb hN]
theorem l_markA {b z : Nat} {mem m0 : Nat → Int32} {K : (Nat → Int32) → Int32 → Option (Int32 × Int32 × Int32 × (Nat → Int32) × (Nat → Int32) × (Nat → Int32) × (Nat → Int32) × (Nat → Int32) × (Nat → Int32) × (Nat → Int32))} (hb : b < 3) (hz : z ≤ 512) {N : Nat} (hN : 5000 ≤ N) : L_X8_mark_56 (nI z) mem (nI b) K N m0 0 = K (filo (512 * b) 0 512 (fun i => if i < z then mem i else 0) m0) (nI 512) := by
  refine loop1 (L := L_X8_mark_56 (nI z) mem (nI b) K) (K := K) (512 * b) 512 (fun i => if i < z then mem i else 0) (fun _ _ => True) ?_ ?_ (fun _ _ _ _ => trivial) 512 N 0 m0 trivial (by omega) (by omega)
  · intro f y
    show B_X8_mark_56 _ _ _ _ _ _ _ = _
    unfold B_X8_mark_56
    rw [if_pos (by decide)]
  · intro f y i hp hi
    show B_X8_mark_56 _ _ _ _ _ _ _ = _
    unfold B_X8_mark_56 J_X8_mark_92
    simp (disch := omega) only [show (512 : Int32) = nI 512 from rfl, nI_mul, nI_inc, nI_add, nI_leI, gin_n, nI_clamp, bn_s]
    rw [if_neg (by omega)]
    by_cases h : z ≤ i
    · rw [if_pos h, if_neg (by omega)]
    · rw [if_neg h, if_pos (by omega)]
theorem l_markB {b : Nat} {mem m0 : Nat → Int32} {K : (Nat → Int32) → Int32 → Option (Int32 × Int32 × Int32 × (Nat → Int32) × (Nat → Int32) × (Nat → Int32) × (Nat → Int32) × (Nat → Int32) × (Nat → Int32) × (Nat → Int32))} (hb : b < 3) {N : Nat} (hN : 5000 ≤ N) : L_X8_mark_111 mem (nI b) K N m0 0 = K (filo (40 * b) 0 40 (fun i => mem i) m0) (nI 40) := by
  refine loop1 (L := L_X8_mark_111 mem (nI b) K) (K := K) (40 * b) 40 (fun i => mem i) (fun _ _ => True) ?_ ?_ (fun _ _ _ _ => trivial) 40 N 0 m0 trivial (by omega) (by omega)
  · intro f y
    show B_X8_mark_111 _ _ _ _ _ _ = _
    unfold B_X8_mark_111
    rw [if_pos (by decide)]
  · intro f y i hp hi
    show B_X8_mark_111 _ _ _ _ _ _ = _
    unfold B_X8_mark_111
    simp (disch := omega) only [show (40 : Int32) = nI 40 from rfl, nI_mul, nI_inc, nI_add, nI_leI, gin_n, nI_clamp, bn_s]
    rw [if_neg (by omega)]
theorem l_markC {b : Nat} {mem mem2 m0 m1 : Nat → Int32} {K : (Nat → Int32) → (Nat → Int32) → Int32 → Option (Int32 × Int32 × Int32 × (Nat → Int32) × (Nat → Int32) × (Nat → Int32) × (Nat → Int32) × (Nat → Int32) × (Nat → Int32) × (Nat → Int32))} (hb : b < 3) {N : Nat} (hN : 5000 ≤ N) : L_X8_mark_152 mem mem2 (nI b) K N m0 m1 0 = K (filo (8 * b) 0 8 (fun i => mem i) m0) (filo (8 * b) 0 8 (fun i => mem2 i) m1) (nI 8) := by
  refine loop2 (L := L_X8_mark_152 mem mem2 (nI b) K) (K := K) (8 * b) 8 (fun i => mem i) (fun i => mem2 i) (fun _ _ _ => True) ?_ ?_ (fun _ _ _ _ _ => trivial) 8 N 0 m0 m1 trivial (by omega) (by omega)
  · intro f y y2
    show B_X8_mark_152 _ _ _ _ _ _ _ _ = _
    unfold B_X8_mark_152
    rw [if_pos (by decide)]
  · intro f y y2 i hp hi
    show B_X8_mark_152 _ _ _ _ _ _ _ _ = _
    unfold B_X8_mark_152
    simp (disch := omega) only [show (8 : Int32) = nI 8 from rfl, nI_mul, nI_inc, nI_add, nI_leI, gin_n, nI_clamp, bn_s]
    rw [if_neg (by omega)]
theorem v_mark39 {r z : Nat} (hr : r < 3) (hz : z ≤ 512) {N : Nat} (hN : 5000 ≤ N) (dp bl : Int32) (mem stk sts lns y3 y4 y5 y6 y7 y8 y9 : Nat → Int32) : J_X8_mark_39 N (nI z) dp bl mem stk sts lns (nI r) y3 y4 y5 y6 y7 y8 y9 = some (nI (r + 1), 0, nI (r + 1), upd y3 r (nI z), filo (512 * r) 0 512 (fun i => if i < z then mem i else 0) y4, upd y5 r dp, filo (40 * r) 0 40 stk y6, upd y7 r bl, filo (8 * r) 0 8 sts y8, filo (8 * r) 0 8 lns y9) := by
  unfold J_X8_mark_39
  simp (disch := omega) only [gin_n, nI_clamp, bn_s]
  rw [l_markA hr hz hN]
  rw [l_markB hr hN]
  rw [l_markC hr hN, show nI r + (1 : Int32) = nI (r + 1) from nI_1 r]
theorem l_become0 {z' : Nat} {X m0 : Nat → Int32} {x1 : Int32} {K : (Nat → Int32) → Int32 → Option ((Nat → Int32) × Int32 × (Nat → Int32) × Int32 × (Nat → Int32) × (Nat → Int32) × Int32)} (hz' : z' ≤ 512) {N : Nat} (hN : 5000 ≤ N) : L_X1_become_16 0 0 (nI z') X x1 K N m0 0 = K (filo 0 0 z' X m0) (nI z') := by
  refine loop1 (L := L_X1_become_16 0 0 (nI z') X x1 K) (K := K) 0 z' X (fun _ _ => True) ?_ ?_ (fun _ _ _ _ => trivial) z' N 0 m0 trivial (by omega) (by omega)
  · intro f y
    show B_X1_become_16 _ _ _ _ _ _ _ _ _ = _
    unfold B_X1_become_16
    rw [if_pos (by rw [nI_leI (by omega) (by omega)]; omega)]
  · intro f y i hp hi
    show B_X1_become_16 _ _ _ _ _ _ _ _ _ = _
    unfold B_X1_become_16 J_X1_become_56 J_X1_become_57 J_X1_become_78
    rw [Nat.zero_add]
    simp (disch := omega) only [show (512 : Int32) = nI 512 from rfl, nI_leI, nI_ltI, lt0_n, ge0_n, gin_n, nI_clamp, bn_s, nI_inc, i1_0, i0_0, ifT, ifF]
    rw [if_neg (by omega), if_neg (by omega)]
theorem v_become0 {z' : Nat} {X m0 : Nat → Int32} (hz' : z' ≤ 512) {N : Nat} (hN : 5000 ≤ N) (sz dp bl : Int32) (s1 s0 t1 t0 u1 u0 : Nat → Int32) : f_X1_become N 0 0 sz (nI z') dp bl X m0 s1 s0 t1 t0 u1 u0 = some (filo 0 0 z' X m0, nI z', va_cpy s1 s0 0 0 40, dp, va_cpy t1 t0 0 0 8, va_cpy u1 u0 0 0 8, bl) := by
  unfold f_X1_become
  rw [bn_s, l_become0 hz' hN]
  rfl
/-- a kept row, seen in other arrays at another place -/
theorem MchU_move {en r r' : Nat} {sz dp bl : Int32} {mem stk sts lns s8 s9 s10 s11 s12 s13 s14 t8 t9 t10 t11 t12 t13 t14 : Nat → Int32} (h : MchU en r sz dp bl mem stk sts lns s8 s9 s10 s11 s12 s13 s14) (e8 : t8 r' = s8 r) (e10 : t10 r' = s10 r) (e12 : t12 r' = s12 r) (e9 : ∀ i, i < 512 → t9 (512 * r' + i) = s9 (512 * r + i)) (e11 : ∀ i, i < 40 → t11 (40 * r' + i) = s11 (40 * r + i)) (e13 : ∀ i, i < 8 → t13 (8 * r' + i) = s13 (8 * r + i)) (e14 : ∀ i, i < 8 → t14 (8 * r' + i) = s14 (8 * r + i)) : MchU en r' sz dp bl mem stk sts lns t8 t9 t10 t11 t12 t13 t14 := by
  obtain ⟨z, d, k, s, l, ⟨z1, z2⟩, ⟨d1, d2⟩, ⟨b1, b2⟩, hz, hd, hk, hm, hst, hbl, hB2⟩ := h
  refine ⟨z, d, k, s, l, ⟨z1, by rw [e8]; exact z2⟩, ⟨d1, by rw [e10]; exact d2⟩, ⟨b1, by rw [e12]; exact b2⟩, hz, hd, hk, fun i hi => ?_, fun i hi => ?_, fun i hi => ?_, hB2⟩
  · show t9 (512 * r' + i) = mem i ∧ _
    rw [e9 i (by omega)]
    exact hm i hi
  · show t11 (40 * r' + i) = stk i
    rw [e11 i (by omega)]
    exact hst i hi
  · show sts i = nI (s i) ∧ lns i = nI (l i) ∧ t13 (8 * r' + i) = nI (s i) ∧ t14 (8 * r' + i) = nI (l i)
    rw [e13 i (by omega), e14 i (by omega)]
    exact hbl i hi
/-- a row that the mark didn't reach -/
theorem MchU_other {en r r' : Nat} {sz dp bl : Int32} {mem stk sts lns s8 s9 s10 s11 s12 s13 s14 : Nat → Int32} (h : MchU en r sz dp bl mem stk sts lns s8 s9 s10 s11 s12 s13 s14) (hne : r ≠ r') {a8 a10 a12 : Int32} {f9 f11 f13 f14 : Nat → Int32} : MchU en r sz dp bl mem stk sts lns (upd s8 r' a8) (filo (512 * r') 0 512 f9 s9) (upd s10 r' a10) (filo (40 * r') 0 40 f11 s11) (upd s12 r' a12) (filo (8 * r') 0 8 f13 s13) (filo (8 * r') 0 8 f14 s14) := by
  refine MchU_move h (upd_n hne) (upd_n hne) (upd_n hne) ?_ ?_ ?_ ?_
  · intro i hi
    exact filo_out (by rcases Nat.lt_or_gt_of_ne hne with h | h <;> omega)
  · intro i hi
    exact filo_out (by rcases Nat.lt_or_gt_of_ne hne with h | h <;> omega)
  · intro i hi
    exact filo_out (by rcases Nat.lt_or_gt_of_ne hne with h | h <;> omega)
  · intro i hi
    exact filo_out (by rcases Nat.lt_or_gt_of_ne hne with h | h <;> omega)
/-- a row that moved down -/
theorem MchU_down {en b : Nat} {sz dp bl : Int32} {mem stk sts lns s8 s9 s10 s11 s12 s13 s14 : Nat → Int32} (h : MchU en (b + 1) sz dp bl mem stk sts lns s8 s9 s10 s11 s12 s13 s14) : MchU en b sz dp bl mem stk sts lns (upd s8 b (s8 (b + 1))) (filo (512 * b) 0 512 (fun i => s9 (512 * (b + 1) + i)) s9) (upd s10 b (s10 (b + 1))) (filo (40 * b) 0 40 (fun i => s11 (40 * (b + 1) + i)) s11) (upd s12 b (s12 (b + 1))) (filo (8 * b) 0 8 (fun i => s13 (8 * (b + 1) + i)) s13) (filo (8 * b) 0 8 (fun i => s14 (8 * (b + 1) + i)) s14) :=
  MchU_move h (upd_s ..) (upd_s ..) (upd_s ..) (fun _ hi => filo_in hi) (fun _ hi => filo_in hi) (fun _ hi => filo_in hi) (fun _ hi => filo_in hi)
set_option maxRecDepth 100000 in
theorem ok_mark {N : Nat} (hN : 5000 ≤ N) : pm_mark Rel N := by
  intro I R J S ⟨ram, en, hS, hM, hF, hO, hB, hP, hL, hU⟩
  obtain ⟨z, d, k, s, l, ⟨z1, z2⟩, ⟨d1, d2⟩, ⟨b1, b2⟩, hz, hd, hk, hm, hst, hbl, hB2⟩ := id hM
  obtain ⟨u, hu, ⟨u1, u2⟩, k0, k1, k2⟩ := id hU
  -- the row that is written
  have row : ∀ (r : Nat) (m0 t0 b0 c0 y8 y9 y10 y11 y12 y13 y14 : Nat → Int32), MchU en r (nI z) (I 7) (I 8) (filo 0 0 z (R 1) m0) (va_cpy (R 2) t0 0 0 40) (va_cpy (R 3) b0 0 0 8) (va_cpy (R 4) c0 0 0 8) (upd y8 r (nI z)) (filo (512 * r) 0 512 (fun i => if i < z then S 0 i else 0) y9) (upd y10 r (J 5)) (filo (40 * r) 0 40 (S 1) y11) (upd y12 r (J 6)) (filo (8 * r) 0 8 (S 2) y13) (filo (8 * r) 0 8 (S 3) y14) := by
    intro r m0 t0 b0 c0 y8 y9 y10 y11 y12 y13 y14
    refine ⟨z, d, k, s, l, ⟨rfl, upd_s ..⟩, ⟨d1, by rw [upd_s]; exact d2⟩, ⟨b1, by rw [upd_s]; exact b2⟩, hz, hd, hk, fun i hi => ?_, fun i hi => ?_, fun i hi => ?_, hB2⟩
    · show filo (512 * r) 0 512 _ y9 (512 * r + i) = filo 0 0 z (R 1) m0 i ∧ Byt (filo 0 0 z (R 1) m0 i)
      rw [filo_in (by omega), filo_0 hi, if_pos hi]
      exact hm i hi
    · show filo (40 * r) 0 40 _ y11 (40 * r + i) = _
      rw [filo_in (by omega), cpy_0 (by omega)]
      exact hst i hi
    · show va_cpy _ _ 0 0 8 i = nI (s i) ∧ va_cpy _ _ 0 0 8 i = nI (l i) ∧ filo (8 * r) 0 8 _ y13 (8 * r + i) = nI (s i) ∧ filo (8 * r) 0 8 _ y14 (8 * r + i) = nI (l i)
      rw [filo_in (by omega), filo_in (by omega), cpy_0 (by omega), cpy_0 (by omega)]
      exact hbl i hi
  match u, hu with
  | 0, _ =>
    have v1 : f_X7_mark N (I 17) (I 18) (I 19) (I 20) (I 6) (I 7) (I 8) (R 1) (R 14) (R 2) (R 15) (R 3) (R 16) (R 4) (R 17) (I 21) (I 22) (I 23) (R 18) (R 19) (R 20) (R 21) (I 24) (I 25) (I 26) (R 22) (R 23) (R 24) (R 25) = some (nI 1, nI 1, filo 0 0 z (R 1) (R 14), nI z, va_cpy (R 2) (R 15) 0 0 40, I 7, va_cpy (R 3) (R 16) 0 0 8, va_cpy (R 4) (R 17) 0 0 8, I 8, R 18, I 21, R 19, I 22, R 20, R 21, I 23, R 22, I 24, R 23, I 25, R 24, R 25, I 26) := by
      unfold f_X7_mark f_X5_keep
      rw [u1, z1, if_pos (show nI 0 < 3 by decide), if_pos (show nI 0 = 0 by decide), v_become0 hz.2 hN]
      rfl
    have v2 : f_X8_mark N (J 4) (J 5) (J 6) (J 14) (S 8) (S 0) (S 9) (S 10) (S 1) (S 11) (S 12) (S 2) (S 13) (S 3) (S 14) = some (nI 1, 0, nI 1, upd (S 8) 0 (nI z), filo (512 * 0) 0 512 (fun i => if i < z then S 0 i else 0) (S 9), upd (S 10) 0 (J 5), filo (40 * 0) 0 40 (S 1) (S 11), upd (S 12) 0 (J 6), filo (8 * 0) 0 8 (S 2) (S 13), filo (8 * 0) 0 8 (S 3) (S 14)) := by
      unfold f_X8_mark
      rw [u2, z2, if_neg (show ¬ nI 0 = 3 by decide), v_mark39 (by omega) hz.2 hN]
    exact ⟨_, _, _, _, _, _, _, _, _, _, _, _, _, _, _, _, _, _, _, _, _, _, _, _, _, _, _, _, _, _, _, _, v1, v2, ram, en, hS, hM, hF, hO, hB, hP, hL, ⟨1, by omega, ⟨rfl, rfl⟩, fun _ => row 0 _ _ _ _ _ _ _ _ _ _ _, fun hx => absurd hx (by omega), fun hx => absurd hx (by omega)⟩⟩
  | 1, _ =>
    have v1 : f_X7_mark N (I 17) (I 18) (I 19) (I 20) (I 6) (I 7) (I 8) (R 1) (R 14) (R 2) (R 15) (R 3) (R 16) (R 4) (R 17) (I 21) (I 22) (I 23) (R 18) (R 19) (R 20) (R 21) (I 24) (I 25) (I 26) (R 22) (R 23) (R 24) (R 25) = some (nI 2, nI 2, R 14, I 18, R 15, I 19, R 16, R 17, I 20, filo 0 0 z (R 1) (R 18), nI z, va_cpy (R 2) (R 19) 0 0 40, I 7, va_cpy (R 3) (R 20) 0 0 8, va_cpy (R 4) (R 21) 0 0 8, I 8, R 22, I 24, R 23, I 25, R 24, R 25, I 26) := by
      unfold f_X7_mark f_X5_keep
      rw [u1, z1, if_pos (show nI 1 < 3 by decide), if_neg (show ¬ nI 1 = 0 by decide), if_pos (show nI 1 = 1 by decide), v_become0 hz.2 hN]
      rfl
    have v2 : f_X8_mark N (J 4) (J 5) (J 6) (J 14) (S 8) (S 0) (S 9) (S 10) (S 1) (S 11) (S 12) (S 2) (S 13) (S 3) (S 14) = some (nI 2, 0, nI 2, upd (S 8) 1 (nI z), filo (512 * 1) 0 512 (fun i => if i < z then S 0 i else 0) (S 9), upd (S 10) 1 (J 5), filo (40 * 1) 0 40 (S 1) (S 11), upd (S 12) 1 (J 6), filo (8 * 1) 0 8 (S 2) (S 13), filo (8 * 1) 0 8 (S 3) (S 14)) := by
      unfold f_X8_mark
      rw [u2, z2, if_neg (show ¬ nI 1 = 3 by decide), v_mark39 (by omega) hz.2 hN]
    have w0 : MchU en 0 (I 18) (I 19) (I 20) (R 14) (R 15) (R 16) (R 17) (upd (S 8) 1 (nI z)) (filo (512 * 1) 0 512 (fun i => if i < z then S 0 i else 0) (S 9)) (upd (S 10) 1 (J 5)) (filo (40 * 1) 0 40 (S 1) (S 11)) (upd (S 12) 1 (J 6)) (filo (8 * 1) 0 8 (S 2) (S 13)) (filo (8 * 1) 0 8 (S 3) (S 14)) := MchU_other (r := 0) (r' := 1) (k0 (by omega)) (by omega)
    exact ⟨_, _, _, _, _, _, _, _, _, _, _, _, _, _, _, _, _, _, _, _, _, _, _, _, _, _, _, _, _, _, _, _, v1, v2, ram, en, hS, hM, hF, hO, hB, hP, hL, ⟨2, by omega, ⟨rfl, rfl⟩, fun _ => w0, fun _ => row 1 _ _ _ _ _ _ _ _ _ _ _, fun hx => absurd hx (by omega)⟩⟩
  | 2, _ =>
    have v1 : f_X7_mark N (I 17) (I 18) (I 19) (I 20) (I 6) (I 7) (I 8) (R 1) (R 14) (R 2) (R 15) (R 3) (R 16) (R 4) (R 17) (I 21) (I 22) (I 23) (R 18) (R 19) (R 20) (R 21) (I 24) (I 25) (I 26) (R 22) (R 23) (R 24) (R 25) = some (nI 3, nI 3, R 14, I 18, R 15, I 19, R 16, R 17, I 20, R 18, I 21, R 19, I 22, R 20, R 21, I 23, filo 0 0 z (R 1) (R 22), nI z, va_cpy (R 2) (R 23) 0 0 40, I 7, va_cpy (R 3) (R 24) 0 0 8, va_cpy (R 4) (R 25) 0 0 8, I 8) := by
      unfold f_X7_mark f_X5_keep
      rw [u1, z1, if_pos (show nI 2 < 3 by decide), if_neg (show ¬ nI 2 = 0 by decide), if_neg (show ¬ nI 2 = 1 by decide), if_pos (show nI 2 = 2 by decide), v_become0 hz.2 hN]
      rfl
    have v2 : f_X8_mark N (J 4) (J 5) (J 6) (J 14) (S 8) (S 0) (S 9) (S 10) (S 1) (S 11) (S 12) (S 2) (S 13) (S 3) (S 14) = some (nI 3, 0, nI 3, upd (S 8) 2 (nI z), filo (512 * 2) 0 512 (fun i => if i < z then S 0 i else 0) (S 9), upd (S 10) 2 (J 5), filo (40 * 2) 0 40 (S 1) (S 11), upd (S 12) 2 (J 6), filo (8 * 2) 0 8 (S 2) (S 13), filo (8 * 2) 0 8 (S 3) (S 14)) := by
      unfold f_X8_mark
      rw [u2, z2, if_neg (show ¬ nI 2 = 3 by decide), v_mark39 (by omega) hz.2 hN]
    have w0 : MchU en 0 (I 18) (I 19) (I 20) (R 14) (R 15) (R 16) (R 17) (upd (S 8) 2 (nI z)) (filo (512 * 2) 0 512 (fun i => if i < z then S 0 i else 0) (S 9)) (upd (S 10) 2 (J 5)) (filo (40 * 2) 0 40 (S 1) (S 11)) (upd (S 12) 2 (J 6)) (filo (8 * 2) 0 8 (S 2) (S 13)) (filo (8 * 2) 0 8 (S 3) (S 14)) := MchU_other (r := 0) (r' := 2) (k0 (by omega)) (by omega)
    have w1 : MchU en 1 (I 21) (I 22) (I 23) (R 18) (R 19) (R 20) (R 21) (upd (S 8) 2 (nI z)) (filo (512 * 2) 0 512 (fun i => if i < z then S 0 i else 0) (S 9)) (upd (S 10) 2 (J 5)) (filo (40 * 2) 0 40 (S 1) (S 11)) (upd (S 12) 2 (J 6)) (filo (8 * 2) 0 8 (S 2) (S 13)) (filo (8 * 2) 0 8 (S 3) (S 14)) := MchU_other (r := 1) (r' := 2) (k1 (by omega)) (by omega)
    exact ⟨_, _, _, _, _, _, _, _, _, _, _, _, _, _, _, _, _, _, _, _, _, _, _, _, _, _, _, _, _, _, _, _, v1, v2, ram, en, hS, hM, hF, hO, hB, hP, hL, ⟨3, by omega, ⟨rfl, rfl⟩, fun _ => w0, fun _ => w1, fun _ => row 2 _ _ _ _ _ _ _ _ _ _ _⟩⟩
  | 3, _ =>
    have v1 : f_X7_mark N (I 17) (I 18) (I 19) (I 20) (I 6) (I 7) (I 8) (R 1) (R 14) (R 2) (R 15) (R 3) (R 16) (R 4) (R 17) (I 21) (I 22) (I 23) (R 18) (R 19) (R 20) (R 21) (I 24) (I 25) (I 26) (R 22) (R 23) (R 24) (R 25) = some (nI 3, nI 3, R 18, I 21, R 19, I 22, R 20, R 21, I 23, R 22, I 24, R 23, I 25, R 24, R 25, I 26, filo 0 0 z (R 1) (R 14), nI z, va_cpy (R 2) (R 15) 0 0 40, I 7, va_cpy (R 3) (R 16) 0 0 8, va_cpy (R 4) (R 17) 0 0 8, I 8) := by
      unfold f_X7_mark f_X5_keep f_X5_dropEldest
      rw [u1, z1, if_neg (show ¬ nI 3 < 3 by decide), bn_s, bd_s, if_neg (show ¬ nI 3 - 1 = 0 by decide), if_neg (show ¬ nI 3 - 1 = 1 by decide), if_pos (show nI 3 - 1 = 2 by decide), v_become0 hz.2 hN]
      rfl
    have v2 : f_X8_mark N (J 4) (J 5) (J 6) (J 14) (S 8) (S 0) (S 9) (S 10) (S 1) (S 11) (S 12) (S 2) (S 13) (S 3) (S 14) = some (nI 3, 0, nI 3, upd (upd (upd (S 8) 0 ((S 8) (0 + 1))) 1 ((upd (S 8) 0 ((S 8) (0 + 1))) (1 + 1))) 2 (nI z), filo (512 * 2) 0 512 (fun i => if i < z then S 0 i else 0) (filo (512 * 1) 0 512 (fun i => (filo (512 * 0) 0 512 (fun i => (S 9) (512 * (0 + 1) + i)) (S 9)) (512 * (1 + 1) + i)) (filo (512 * 0) 0 512 (fun i => (S 9) (512 * (0 + 1) + i)) (S 9))), upd (upd (upd (S 10) 0 ((S 10) (0 + 1))) 1 ((upd (S 10) 0 ((S 10) (0 + 1))) (1 + 1))) 2 (J 5), filo (40 * 2) 0 40 (S 1) (filo (40 * 1) 0 40 (fun i => (filo (40 * 0) 0 40 (fun i => (S 11) (40 * (0 + 1) + i)) (S 11)) (40 * (1 + 1) + i)) (filo (40 * 0) 0 40 (fun i => (S 11) (40 * (0 + 1) + i)) (S 11))), upd (upd (upd (S 12) 0 ((S 12) (0 + 1))) 1 ((upd (S 12) 0 ((S 12) (0 + 1))) (1 + 1))) 2 (J 6), filo (8 * 2) 0 8 (S 2) (filo (8 * 1) 0 8 (fun i => (filo (8 * 0) 0 8 (fun i => (S 13) (8 * (0 + 1) + i)) (S 13)) (8 * (1 + 1) + i)) (filo (8 * 0) 0 8 (fun i => (S 13) (8 * (0 + 1) + i)) (S 13))), filo (8 * 2) 0 8 (S 3) (filo (8 * 1) 0 8 (fun i => (filo (8 * 0) 0 8 (fun i => (S 14) (8 * (0 + 1) + i)) (S 14)) (8 * (1 + 1) + i)) (filo (8 * 0) 0 8 (fun i => (S 14) (8 * (0 + 1) + i)) (S 14)))) := by
      unfold f_X8_mark
      rw [u2, z2, if_pos (show nI 3 = 3 by decide)]
      obtain ⟨n, rfl⟩ : ∃ n, N = n + 3 := ⟨N - 3, by omega⟩
      have st : ∀ (f b : Nat) (hb : b < 2) (K : (Nat → Int32) → (Nat → Int32) → (Nat → Int32) → (Nat → Int32) → (Nat → Int32) → (Nat → Int32) → (Nat → Int32) → Int32 → Option (Int32 × Int32 × Int32 × (Nat → Int32) × (Nat → Int32) × (Nat → Int32) × (Nat → Int32) × (Nat → Int32) × (Nat → Int32) × (Nat → Int32))) (s8 s9 s10 s11 s12 s13 s14 : Nat → Int32), L_X8_mark_15 (n + 3) K (f + 1) s8 s9 s10 s11 s12 s13 s14 (nI b) = L_X8_mark_15 (n + 3) K f (upd s8 b (s8 (b + 1))) (filo (512 * b) 0 512 (fun i => s9 (512 * (b + 1) + i)) s9) (upd s10 b (s10 (b + 1))) (filo (40 * b) 0 40 (fun i => s11 (40 * (b + 1) + i)) s11) (upd s12 b (s12 (b + 1))) (filo (8 * b) 0 8 (fun i => s13 (8 * (b + 1) + i)) s13) (filo (8 * b) 0 8 (fun i => s14 (8 * (b + 1) + i)) s14) (nI (b + 1)) := by
        intro f b hb K s8 s9 s10 s11 s12 s13 s14
        show B_X8_mark_15 _ _ _ _ _ _ _ _ _ _ _ = _
        unfold B_X8_mark_15
        rw [if_neg (by rw [show (2 : Int32) = nI 2 from rfl, nI_leI (by omega) (by omega)]; omega), show nI b + (1 : Int32) = nI (b + 1) from nI_1 b, v_move hb hN]
        rfl
      have en2 : ∀ (f : Nat) (K : (Nat → Int32) → (Nat → Int32) → (Nat → Int32) → (Nat → Int32) → (Nat → Int32) → (Nat → Int32) → (Nat → Int32) → Int32 → Option (Int32 × Int32 × Int32 × (Nat → Int32) × (Nat → Int32) × (Nat → Int32) × (Nat → Int32) × (Nat → Int32) × (Nat → Int32) × (Nat → Int32))) (s8 s9 s10 s11 s12 s13 s14 : Nat → Int32), L_X8_mark_15 (n + 3) K (f + 1) s8 s9 s10 s11 s12 s13 s14 (nI 2) = K s8 s9 s10 s11 s12 s13 s14 (nI 2) := by
        intro f K s8 s9 s10 s11 s12 s13 s14
        show B_X8_mark_15 _ _ _ _ _ _ _ _ _ _ _ = _
        unfold B_X8_mark_15
        rw [if_pos (by decide)]
      rw [show (0 : Int32) = nI 0 from rfl, st (n + 2) 0 (by omega), st (n + 1) (0 + 1) (by omega), show 0 + 1 + 1 = 2 from rfl, en2 n]
      exact v_mark39 (r := 2) (by omega) hz.2 hN _ _ _ _ _ _ _ _ _ _ _ _ _
    have w0 : MchU en 0 (I 21) (I 22) (I 23) (R 18) (R 19) (R 20) (R 21) (upd (upd (upd (S 8) 0 ((S 8) (0 + 1))) 1 ((upd (S 8) 0 ((S 8) (0 + 1))) (1 + 1))) 2 (nI z)) (filo (512 * 2) 0 512 (fun i => if i < z then S 0 i else 0) (filo (512 * 1) 0 512 (fun i => (filo (512 * 0) 0 512 (fun i => (S 9) (512 * (0 + 1) + i)) (S 9)) (512 * (1 + 1) + i)) (filo (512 * 0) 0 512 (fun i => (S 9) (512 * (0 + 1) + i)) (S 9)))) (upd (upd (upd (S 10) 0 ((S 10) (0 + 1))) 1 ((upd (S 10) 0 ((S 10) (0 + 1))) (1 + 1))) 2 (J 5)) (filo (40 * 2) 0 40 (S 1) (filo (40 * 1) 0 40 (fun i => (filo (40 * 0) 0 40 (fun i => (S 11) (40 * (0 + 1) + i)) (S 11)) (40 * (1 + 1) + i)) (filo (40 * 0) 0 40 (fun i => (S 11) (40 * (0 + 1) + i)) (S 11)))) (upd (upd (upd (S 12) 0 ((S 12) (0 + 1))) 1 ((upd (S 12) 0 ((S 12) (0 + 1))) (1 + 1))) 2 (J 6)) (filo (8 * 2) 0 8 (S 2) (filo (8 * 1) 0 8 (fun i => (filo (8 * 0) 0 8 (fun i => (S 13) (8 * (0 + 1) + i)) (S 13)) (8 * (1 + 1) + i)) (filo (8 * 0) 0 8 (fun i => (S 13) (8 * (0 + 1) + i)) (S 13)))) (filo (8 * 2) 0 8 (S 3) (filo (8 * 1) 0 8 (fun i => (filo (8 * 0) 0 8 (fun i => (S 14) (8 * (0 + 1) + i)) (S 14)) (8 * (1 + 1) + i)) (filo (8 * 0) 0 8 (fun i => (S 14) (8 * (0 + 1) + i)) (S 14)))) := by
      exact MchU_other (r := 0) (r' := 2) (MchU_other (r := 0) (r' := 1) (MchU_down (b := 0) (k1 (by omega))) (by omega)) (by omega)
    have w1 : MchU en 1 (I 24) (I 25) (I 26) (R 22) (R 23) (R 24) (R 25) (upd (upd (upd (S 8) 0 ((S 8) (0 + 1))) 1 ((upd (S 8) 0 ((S 8) (0 + 1))) (1 + 1))) 2 (nI z)) (filo (512 * 2) 0 512 (fun i => if i < z then S 0 i else 0) (filo (512 * 1) 0 512 (fun i => (filo (512 * 0) 0 512 (fun i => (S 9) (512 * (0 + 1) + i)) (S 9)) (512 * (1 + 1) + i)) (filo (512 * 0) 0 512 (fun i => (S 9) (512 * (0 + 1) + i)) (S 9)))) (upd (upd (upd (S 10) 0 ((S 10) (0 + 1))) 1 ((upd (S 10) 0 ((S 10) (0 + 1))) (1 + 1))) 2 (J 5)) (filo (40 * 2) 0 40 (S 1) (filo (40 * 1) 0 40 (fun i => (filo (40 * 0) 0 40 (fun i => (S 11) (40 * (0 + 1) + i)) (S 11)) (40 * (1 + 1) + i)) (filo (40 * 0) 0 40 (fun i => (S 11) (40 * (0 + 1) + i)) (S 11)))) (upd (upd (upd (S 12) 0 ((S 12) (0 + 1))) 1 ((upd (S 12) 0 ((S 12) (0 + 1))) (1 + 1))) 2 (J 6)) (filo (8 * 2) 0 8 (S 2) (filo (8 * 1) 0 8 (fun i => (filo (8 * 0) 0 8 (fun i => (S 13) (8 * (0 + 1) + i)) (S 13)) (8 * (1 + 1) + i)) (filo (8 * 0) 0 8 (fun i => (S 13) (8 * (0 + 1) + i)) (S 13)))) (filo (8 * 2) 0 8 (S 3) (filo (8 * 1) 0 8 (fun i => (filo (8 * 0) 0 8 (fun i => (S 14) (8 * (0 + 1) + i)) (S 14)) (8 * (1 + 1) + i)) (filo (8 * 0) 0 8 (fun i => (S 14) (8 * (0 + 1) + i)) (S 14)))) := by
      exact MchU_other (r := 1) (r' := 2) (MchU_down (b := 1) (MchU_other (r := 2) (r' := 0) (k2 (by omega)) (by omega))) (by omega)
    have w2 : MchU en 2 (nI z) (I 7) (I 8) (filo 0 0 z (R 1) (R 14)) (va_cpy (R 2) (R 15) 0 0 40) (va_cpy (R 3) (R 16) 0 0 8) (va_cpy (R 4) (R 17) 0 0 8) (upd (upd (upd (S 8) 0 ((S 8) (0 + 1))) 1 ((upd (S 8) 0 ((S 8) (0 + 1))) (1 + 1))) 2 (nI z)) (filo (512 * 2) 0 512 (fun i => if i < z then S 0 i else 0) (filo (512 * 1) 0 512 (fun i => (filo (512 * 0) 0 512 (fun i => (S 9) (512 * (0 + 1) + i)) (S 9)) (512 * (1 + 1) + i)) (filo (512 * 0) 0 512 (fun i => (S 9) (512 * (0 + 1) + i)) (S 9)))) (upd (upd (upd (S 10) 0 ((S 10) (0 + 1))) 1 ((upd (S 10) 0 ((S 10) (0 + 1))) (1 + 1))) 2 (J 5)) (filo (40 * 2) 0 40 (S 1) (filo (40 * 1) 0 40 (fun i => (filo (40 * 0) 0 40 (fun i => (S 11) (40 * (0 + 1) + i)) (S 11)) (40 * (1 + 1) + i)) (filo (40 * 0) 0 40 (fun i => (S 11) (40 * (0 + 1) + i)) (S 11)))) (upd (upd (upd (S 12) 0 ((S 12) (0 + 1))) 1 ((upd (S 12) 0 ((S 12) (0 + 1))) (1 + 1))) 2 (J 6)) (filo (8 * 2) 0 8 (S 2) (filo (8 * 1) 0 8 (fun i => (filo (8 * 0) 0 8 (fun i => (S 13) (8 * (0 + 1) + i)) (S 13)) (8 * (1 + 1) + i)) (filo (8 * 0) 0 8 (fun i => (S 13) (8 * (0 + 1) + i)) (S 13)))) (filo (8 * 2) 0 8 (S 3) (filo (8 * 1) 0 8 (fun i => (filo (8 * 0) 0 8 (fun i => (S 14) (8 * (0 + 1) + i)) (S 14)) (8 * (1 + 1) + i)) (filo (8 * 0) 0 8 (fun i => (S 14) (8 * (0 + 1) + i)) (S 14)))) := row 2 _ _ _ _ _ _ _ _ _ _ _
    exact ⟨_, _, _, _, _, _, _, _, _, _, _, _, _, _, _, _, _, _, _, _, _, _, _, _, _, _, _, _, _, _, _, _, v1, v2, ram, en, hS, hM, hF, hO, hB, hP, hL, ⟨3, by omega, ⟨rfl, rfl⟩, fun _ => w0, fun _ => w1, fun _ => w2⟩⟩
  | _ + 4, hu => exact absurd hu (by omega)
