/-! ===== undo and mark ===== -/
theorem l_undoA {r g h z z' : Nat} {s8 s9 m0 : Nat → Int32} {K : (Nat → Int32) → Int32 → Option (Int32 × Int32 × Int32 × (Nat → Int32) × Int32 × (Nat → Int32) × Int32 × (Nat → Int32) × (Nat → Int32) × Int32)} (hr : r < 3) (hg : g + h < 2 ^ 31) (hz : z ≤ 512) (hz' : z' ≤ 512) (h8 : s8 r = nI z') {N : Nat} (hN : 5000 ≤ N) : L_X8_undo_32 (nI z) (nI g) (nI h) s8 s9 (nI r) K N m0 0 = K (brt g (g + h) z z' (fun i => s9 (512 * r + i)) m0) (nI z') := by
  refine loop1 (L := L_X8_undo_32 (nI z) (nI g) (nI h) s8 s9 (nI r) K) (K := K) 0 z' (brg g (g + h) z (fun i => s9 (512 * r + i)) m0) (Und m0) ?_ ?_ (fun z i h _ => Und_s z i h) z' N 0 m0 (Und_0 m0) (by omega) (by omega)
  · intro f y
    show B_X8_undo_32 _ _ _ _ _ _ _ _ _ _ = _
    unfold B_X8_undo_32
    simp (disch := omega) only [gin_n, nI_clamp, h8, nI_leI]
    rw [if_pos (Nat.le_refl _)]
  · intro f y i hp hi
    show B_X8_undo_32 _ _ _ _ _ _ _ _ _ _ = _
    unfold B_X8_undo_32 J_X8_undo_72 J_X8_undo_84
    rw [Nat.zero_add]
    simp (disch := omega) only [show (512 : Int32) = nI 512 from rfl, nI_mul, nI_add, v_guard, h8, nI_leI, nI_ltI, gin_n, nI_clamp, bn_s, bd_s, nI_inc, bI_0]
    rw [if_neg (by omega)]
    unfold brg
    by_cases h1 : g ≤ i ∧ i < g + h
    · rw [if_neg (not_not_intro h1)]
      by_cases h2 : z ≤ i
      · rw [if_pos h2, if_neg (by omega)]
      · rw [if_neg h2, if_pos (by omega), hp i (Nat.le_refl _)]
    · rw [if_pos h1, if_neg (by omega)]
theorem l_undoB {r : Nat} {s11 m0 : Nat → Int32} {K : (Nat → Int32) → Int32 → Option (Int32 × Int32 × Int32 × (Nat → Int32) × Int32 × (Nat → Int32) × Int32 × (Nat → Int32) × (Nat → Int32) × Int32)} (hr : r < 3) {N : Nat} (hN : 5000 ≤ N) : L_X8_undo_113 s11 (nI r) K N m0 0 = K (filo 0 0 40 (fun i => s11 (40 * r + i)) m0) (nI 40) := by
  refine loop1 (L := L_X8_undo_113 s11 (nI r) K) (K := K) 0 40 (fun i => s11 (40 * r + i)) (fun _ _ => True) ?_ ?_ (fun _ _ _ _ => trivial) 40 N 0 m0 trivial (by omega) (by omega)
  · intro f y
    show B_X8_undo_113 _ _ _ _ _ _ = _
    unfold B_X8_undo_113
    rw [if_pos (by decide)]
  · intro f y i hp hi
    show B_X8_undo_113 _ _ _ _ _ _ = _
    unfold B_X8_undo_113
    rw [Nat.zero_add]
    simp (disch := omega) only [show (40 : Int32) = nI 40 from rfl, nI_mul, nI_add, nI_leI, gin_n, nI_clamp, bn_s, nI_inc]
    rw [if_neg (by omega)]
theorem l_undoC {r : Nat} {s13 s14 m0 m1 : Nat → Int32} {K : (Nat → Int32) → (Nat → Int32) → Int32 → Option (Int32 × Int32 × Int32 × (Nat → Int32) × Int32 × (Nat → Int32) × Int32 × (Nat → Int32) × (Nat → Int32) × Int32)} (hr : r < 3) {N : Nat} (hN : 5000 ≤ N) : L_X8_undo_154 s13 s14 (nI r) K N m0 m1 0 = K (filo 0 0 8 (fun i => s13 (8 * r + i)) m0) (filo 0 0 8 (fun i => s14 (8 * r + i)) m1) (nI 8) := by
  refine loop2 (L := L_X8_undo_154 s13 s14 (nI r) K) (K := K) 0 8 (fun i => s13 (8 * r + i)) (fun i => s14 (8 * r + i)) (fun _ _ _ => True) ?_ ?_ (fun _ _ _ _ _ => trivial) 8 N 0 m0 m1 trivial (by omega) (by omega)
  · intro f y y2
    show B_X8_undo_154 _ _ _ _ _ _ _ _ = _
    unfold B_X8_undo_154
    rw [if_pos (by decide)]
  · intro f y y2 i hp hi
    show B_X8_undo_154 _ _ _ _ _ _ _ _ = _
    unfold B_X8_undo_154
    rw [Nat.zero_add]
    simp (disch := omega) only [show (8 : Int32) = nI 8 from rfl, nI_mul, nI_add, nI_leI, gin_n, nI_clamp, bn_s, nI_inc]
    rw [if_neg (by omega)]
theorem v_X8_undo {r g h z z' : Nat} {j5 j6 : Int32} {s8 s0 s9 s10 s11 s1 s12 s13 s2 s14 s3 : Nat → Int32} (hr : r < 3) (hg : g + h < 2 ^ 31) (hz : z ≤ 512) (hz' : z' ≤ 512) (h8 : s8 r = nI z') {N : Nat} (hN : 5000 ≤ N) : f_X8_undo N (nI z) j5 j6 (nI g) (nI h) (nI (r + 1)) s8 s0 s9 s10 s11 s1 s12 s13 s2 s14 s3 = some (nI r, 0, nI z', brt g (g + h) z z' (fun i => s9 (512 * r + i)) s0, s10 r, filo 0 0 40 (fun i => s11 (40 * r + i)) s1, s12 r, filo 0 0 8 (fun i => s13 (8 * r + i)) s2, filo 0 0 8 (fun i => s14 (8 * r + i)) s3, nI r) := by
  unfold f_X8_undo
  rw [if_neg (by rw [eq0_n (by omega)]; omega), show nI (r + 1) - 1 = nI r from nI_pred r, bn_s, l_undoA hr hg hz hz' h8 hN]
  simp (disch := omega) only [gin_n, nI_clamp, bn_s]
  rw [l_undoB hr hN]
  rw [l_undoC hr hN, h8]
/-- a kept row comes back -/
theorem Mch_back {en g h r : Nat} {sz dp bl : Int32} {mem stk sts lns : Nat → Int32} {sz' dp' bl' : Int32} {mem' stk' sts' lns' : Nat → Int32} {ksz kdp kbl : Int32} {kmem kstk ksts klns s8 s9 s10 s11 s12 s13 s14 : Nat → Int32} (hr : r < 3) (hg : g ≤ 511) (hh : h ≤ 512) (hM : Mch en sz dp bl mem stk sts lns sz' dp' bl' mem' stk' sts' lns') (hU : MchU en r ksz kdp kbl kmem kstk ksts klns s8 s9 s10 s11 s12 s13 s14) {N : Nat} (hN : 5000 ≤ N) : ∃ (m1 t1 b1 c1 m2 t2 b2 c2 : Nat → Int32), f_X7_bringBack N (nI g) (nI (g + h)) sz ksz kdp kbl kmem mem kstk stk ksts sts klns lns = some (m1, ksz, t1, kdp, b1, c1, kbl) ∧ f_X8_undo N sz' dp' bl' (nI g) (nI h) (nI (r + 1)) s8 mem' s9 s10 s11 stk' s12 s13 sts' s14 lns' = some (nI r, 0, s8 r, m2, s10 r, t2, s12 r, b2, c2, nI r) ∧ Mch en ksz kdp kbl m1 t1 b1 c1 (s8 r) (s10 r) (s12 r) m2 t2 b2 c2 := by
  obtain ⟨z, d, k, s, l, ⟨z1, z2⟩, ⟨d1, d2⟩, ⟨b1, b2⟩, hz, hd, hk, hm, hst, hbl, hB2⟩ := hM
  obtain ⟨zz, dd, kk, ss, ll, ⟨zz1, zz2⟩, ⟨dd1, dd2⟩, ⟨bb1, bb2⟩, hzz, hdd, hkk, hmm, hsst, hbbl, hBB2⟩ := hU
  refine ⟨brt g (g + h) z zz kmem mem, va_cpy kstk stk 0 0 40, va_cpy ksts sts 0 0 8, va_cpy klns lns 0 0 8, brt g (g + h) z zz (fun i => s9 (512 * r + i)) mem', filo 0 0 40 (fun i => s11 (40 * r + i)) stk', filo 0 0 8 (fun i => s13 (8 * r + i)) sts', filo 0 0 8 (fun i => s14 (8 * r + i)) lns', ?_, ?_, ?_⟩
  · unfold f_X7_bringBack
    rw [z1, zz1, v_become (by omega) (by omega) hz.2 hzz.2 hN]
    rfl
  · rw [z2, v_X8_undo hr (by omega) hz.2 hzz.2 zz2 hN, zz2]
  · refine ⟨zz, dd, kk, ss, ll, ⟨zz1, zz2⟩, ⟨dd1, dd2⟩, ⟨bb1, bb2⟩, hzz, hdd, hkk, brt_ok hm hmm, ?_, ?_, hBB2⟩
    · intro i hi
      rw [filo_0 (by omega), cpy_0 (by omega)]
      exact hsst i hi
    · intro i hi
      rw [filo_0 (by omega), filo_0 (by omega), cpy_0 (by omega), cpy_0 (by omega)]
      exact hbbl i hi
theorem ok_undo {N : Nat} (hN : 5000 ≤ N) : pm_undo Rel N := by
  intro I R J S ⟨ram, en, hS, hM, hF, hO, hB, hP, hL, hU⟩
  obtain ⟨g, h, hg, hh, ⟨p1, p2⟩, ⟨p3, p4⟩⟩ := id hP
  obtain ⟨u, hu, ⟨u1, u2⟩, k0, k1, k2⟩ := id hU
  match u, hu with
  | 0, _ =>
    have v1 : f_X7_undo N (I 0) (I 1) (I 17) (I 6) (I 7) (I 8) (I 18) (I 19) (I 20) (R 14) (R 1) (R 15) (R 2) (R 16) (R 3) (R 17) (R 4) (I 21) (I 22) (I 23) (R 18) (R 19) (R 20) (R 21) (I 24) (I 25) (I 26) (R 22) (R 23) (R 24) (R 25) = some (-3, R 1, I 6, R 2, I 7, R 3, R 4, I 8, nI 0) := by
      unfold f_X7_undo f_X5_takeLatest
      rw [u1, if_neg (show ¬ 0 < nI 0 by decide), bd_s]
      rfl
    have v2 : f_X8_undo N (J 4) (J 5) (J 6) (J 7) (J 8) (J 14) (S 8) (S 0) (S 9) (S 10) (S 11) (S 1) (S 12) (S 13) (S 2) (S 14) (S 3) = some (-3, 0, J 4, S 0, J 5, S 1, J 6, S 2, S 3, nI 0) := by
      unfold f_X8_undo
      rw [u2, if_pos nI_0]
    exact ⟨_, _, _, _, _, _, _, _, _, _, _, _, _, _, _, _, _, _, v1, v2, ram, en, hS, hM, hF, hO, hB, hP, hL, ⟨0, by omega, ⟨rfl, rfl⟩, k0, k1, k2⟩⟩
  | 1, _ =>
    obtain ⟨m1, t1, b1, c1, m2, t2, b2, c2, e1, e2, e3⟩ := Mch_back (r := 0) (by omega) hg hh hM (k0 (by omega)) hN
    have v1 : f_X7_undo N (I 0) (I 1) (I 17) (I 6) (I 7) (I 8) (I 18) (I 19) (I 20) (R 14) (R 1) (R 15) (R 2) (R 16) (R 3) (R 17) (R 4) (I 21) (I 22) (I 23) (R 18) (R 19) (R 20) (R 21) (I 24) (I 25) (I 26) (R 22) (R 23) (R 24) (R 25) = some (nI 0, m1, I 18, t1, I 19, b1, c1, I 20, nI 0) := by
      unfold f_X7_undo f_X5_takeLatest
      rw [u1, if_pos (show 0 < nI 1 by decide), p1, p2, e1]
      rfl
    have v2 : f_X8_undo N (J 4) (J 5) (J 6) (J 7) (J 8) (J 14) (S 8) (S 0) (S 9) (S 10) (S 11) (S 1) (S 12) (S 13) (S 2) (S 14) (S 3) = some (nI 0, 0, S 8 0, m2, S 10 0, t2, S 12 0, b2, c2, nI 0) := by
      rw [p3, p4, u2]
      exact e2
    exact ⟨_, _, _, _, _, _, _, _, _, _, _, _, _, _, _, _, _, _, v1, v2, ram, en, hS, e3, hF, hO, hB, hP, hL, ⟨0, by omega, ⟨rfl, rfl⟩, fun hx => absurd hx (by omega), fun hx => absurd hx (by omega), fun hx => absurd hx (by omega)⟩⟩
  | 2, _ =>
    obtain ⟨m1, t1, b1, c1, m2, t2, b2, c2, e1, e2, e3⟩ := Mch_back (r := 1) (by omega) hg hh hM (k1 (by omega)) hN
    have v1 : f_X7_undo N (I 0) (I 1) (I 17) (I 6) (I 7) (I 8) (I 18) (I 19) (I 20) (R 14) (R 1) (R 15) (R 2) (R 16) (R 3) (R 17) (R 4) (I 21) (I 22) (I 23) (R 18) (R 19) (R 20) (R 21) (I 24) (I 25) (I 26) (R 22) (R 23) (R 24) (R 25) = some (nI 1, m1, I 21, t1, I 22, b1, c1, I 23, nI 1) := by
      unfold f_X7_undo f_X5_takeLatest
      rw [u1, if_pos (show 0 < nI 2 by decide), p1, p2, e1]
      rfl
    have v2 : f_X8_undo N (J 4) (J 5) (J 6) (J 7) (J 8) (J 14) (S 8) (S 0) (S 9) (S 10) (S 11) (S 1) (S 12) (S 13) (S 2) (S 14) (S 3) = some (nI 1, 0, S 8 1, m2, S 10 1, t2, S 12 1, b2, c2, nI 1) := by
      rw [p3, p4, u2]
      exact e2
    exact ⟨_, _, _, _, _, _, _, _, _, _, _, _, _, _, _, _, _, _, v1, v2, ram, en, hS, e3, hF, hO, hB, hP, hL, ⟨1, by omega, ⟨rfl, rfl⟩, fun _ => k0 (by omega), fun hx => absurd hx (by omega), fun hx => absurd hx (by omega)⟩⟩
  | 3, _ =>
    obtain ⟨m1, t1, b1, c1, m2, t2, b2, c2, e1, e2, e3⟩ := Mch_back (r := 2) (by omega) hg hh hM (k2 (by omega)) hN
    have v1 : f_X7_undo N (I 0) (I 1) (I 17) (I 6) (I 7) (I 8) (I 18) (I 19) (I 20) (R 14) (R 1) (R 15) (R 2) (R 16) (R 3) (R 17) (R 4) (I 21) (I 22) (I 23) (R 18) (R 19) (R 20) (R 21) (I 24) (I 25) (I 26) (R 22) (R 23) (R 24) (R 25) = some (nI 2, m1, I 24, t1, I 25, b1, c1, I 26, nI 2) := by
      unfold f_X7_undo f_X5_takeLatest
      rw [u1, if_pos (show 0 < nI 3 by decide), p1, p2, e1]
      rfl
    have v2 : f_X8_undo N (J 4) (J 5) (J 6) (J 7) (J 8) (J 14) (S 8) (S 0) (S 9) (S 10) (S 11) (S 1) (S 12) (S 13) (S 2) (S 14) (S 3) = some (nI 2, 0, S 8 2, m2, S 10 2, t2, S 12 2, b2, c2, nI 2) := by
      rw [p3, p4, u2]
      exact e2
    exact ⟨_, _, _, _, _, _, _, _, _, _, _, _, _, _, _, _, _, _, v1, v2, ram, en, hS, e3, hF, hO, hB, hP, hL, ⟨2, by omega, ⟨rfl, rfl⟩, fun _ => k0 (by omega), fun _ => k1 (by omega), fun hx => absurd hx (by omega)⟩⟩
  | _ + 4, hu => exact absurd hu (by omega)
