/-! ===== save ===== -/
theorem w_copy {m : Nat} {z : Nat → Int32} {mk : Nat → Int32} {K : (Nat → Int32) → Int32 → Option (Int32 × Int32 × Int32 × (Nat → Int32) × Int32 × (Nat → Int32))} (hm : m ≤ 1200) {N : Nat} (hN : 5000 ≤ N) : L_X8_save_259 (nI m) mk K N z 0 = K (filo 0 0 m mk z) (nI m) := by
  refine loop1 (L := L_X8_save_259 (nI m) mk K) (K := K) 0 m mk (fun _ _ => True) ?_ ?_ (fun _ _ _ _ => trivial) m N 0 z trivial (by omega) (by omega)
  · intro f y
    show B_X8_save_259 _ _ _ _ _ _ = _
    unfold B_X8_save_259
    rw [if_pos (by rw [nI_leI (by omega) (by omega)]; omega)]
  · intro f y i hp hi
    show B_X8_save_259 _ _ _ _ _ _ = _
    unfold B_X8_save_259
    rw [Nat.zero_add]
    simp (disch := omega) only [nI_leI, gin_n, nI_clamp, bn_s, nI_inc]
    rw [if_neg (by omega)]
/-- the end of writing: the others, the whole length, the file if there is room -/
theorem w_end {o : Nat} {n : Nat → Nat} (ho : o ≤ 4) {r9 r10 r11 s5 s6 s7 : Nat → Int32} (hoo : ∀ k, k < o → n k ≤ 60 ∧ s5 k = r9 k ∧ r10 k = nI (n k) ∧ s6 k = nI (n k) ∧ ∀ i, i < n k → s7 (60 * k + i) = r11 (60 * k + i) ∧ Byt (r11 (60 * k + i))) {N : Nat} (hN : 5000 ≤ N) {m : Nat} {b : Nat → Int32} {sz ov made : Int32} {mk : Nat → Int32} (hw : WR m b sz ov made mk) (hm : m + 280 ≤ 4000) (h8 : 8 ≤ m) (fl : Int32) (file : Nat → Int32) : ∃ m' b' mk' sz' ov', J_X6_writeFile_45 N (nI o) r9 r10 r11 b sz ov = some (b', sz', ov') ∧ ((m' ≤ 1200 ∧ sz' = nI m' ∧ ov' = 0 ∧ (∀ i, i < m' → mk' i = b' i ∧ Byt (b' i)) ∧ J_X8_save_167 N fl (nI o) s5 s6 s7 file made mk = some (nI m', 0, nI m', filo 0 0 m' mk' file, nI m', mk')) ∨ (ov' = 1 ∧ J_X8_save_167 N fl (nI o) s5 s6 s7 file made mk = some (-4, 0, fl, file, nI m', mk'))) := by
  obtain ⟨m', b1, s1, o1, k1, p1, q1, w1, l1, l2⟩ := w_oth ho hoo hN o N 0 m b sz ov made mk (by omega) (by omega) hw (by omega)
  unfold J_X6_writeFile_45 J_X8_save_167 f_X6_writeOthers f_X8_putAt
  have e8 : f_X8_putFour (nI m' - 8) 4 k1 = some (nI (4 + 4), put4 k1 4 (nI (m' - 8))) := by
    rw [show (8 : Int32) = nI 8 from rfl, nI_sub (by omega)]
    exact v_put4 (m := 4) (by omega) _ _
  obtain ⟨_, hh⟩ := w1
  rcases hh with ⟨h1, rfl, rfl, h2⟩ | ⟨h1, rfl, rfl⟩
  · refine ⟨m', put4 b1 4 (nI (m' - 8)), put4 k1 4 (nI (m' - 8)), nI m', 0, ?_, Or.inl ⟨h1, rfl, rfl, put4_ok h2, ?_⟩⟩
    · rw [show (0 : Int32) = nI 0 from rfl, p1, bd_s]
      simp only []
      rw [show (8 : Int32) = nI 8 from rfl, nI_sub (by omega), show (4 : Int32) = nI 4 from rfl, v_setFour hN (by omega), bd_s]
      rfl
    · rw [show (0 : Int32) = nI 0 from rfl, q1, e8, bd_s, bd_s, if_pos (by rw [show (1200 : Int32) = nI 1200 from rfl, nI_leI (by omega) (by omega)]; exact h1), show nI 0 = (0 : Int32) from rfl, w_copy h1 hN]
  · obtain ⟨b', hb'⟩ := sp_setFour hN 4 (nI 1200 - 8) b1
    refine ⟨m', b', put4 k1 4 (nI (m' - 8)), nI 1200, 1, ?_, Or.inr ⟨rfl, ?_⟩⟩
    · rw [show (0 : Int32) = nI 0 from rfl, p1, bd_s]
      simp only []
      rw [hb', bd_s]
    · rw [show (0 : Int32) = nI 0 from rfl, q1, e8, bd_s, bd_s, if_neg (by rw [show (1200 : Int32) = nI 1200 from rfl, nI_leI (by omega) (by omega)]; omega)]
set_option maxRecDepth 100000 in
theorem ok_save {N : Nat} (hN : 5000 ≤ N) : pm_save Rel N := by
  intro I R J S ⟨ram, en, hS, hM, hF, hO, hB, hP, hL, hU⟩
  obtain ⟨z, d, k, s, l, ⟨z1, z2⟩, ⟨d1, d2⟩, ⟨b1, b2⟩, hz, hd, hk, hm, hst, hbl, hB2⟩ := id hM
  obtain ⟨hr, he, ⟨er, er'⟩, ⟨ee, ee'⟩, ho⟩ := id hS
  obtain ⟨o, ln, ho4, ⟨o1, o2⟩, hoo⟩ := id hO
  obtain ⟨n, hn, ⟨f1, f2⟩, hb⟩ := id hB
  have W0 : WR 0 (R 13) 0 0 0 (S 15) := ⟨rfl, Or.inl ⟨by omega, rfl, rfl, fun i hi => absurd hi (by omega)⟩⟩
  obtain ⟨c1, x1, y1, t1, p1, q1, w1⟩ := w_four W0 (by omega) hN 1179603533
  obtain ⟨c2, x2, y2, t2, p2, q2, w2⟩ := w_four w1 (by omega) hN 0
  obtain ⟨c3, x3, y3, t3, p3, q3, w3⟩ := w_four w2 (by omega) hN 1229347411
  obtain ⟨c4, x4, y4, t4, p4, q4, w4⟩ := w_open w3 (by omega) hN 1229351012
  obtain ⟨c5, x5, y5, t5, p5, q5, w5⟩ := w_head he.2 ho 16 N 0 _ c4 x4 y4 _ t4 (by omega) (by omega) w4 (by omega)
  obtain ⟨m6, c6, x6, y6, t6, l6, p6, q6, w6⟩ := w_close (m0 := 0 + 4 + 4 + 4) w5 (w_start w3) (by omega) (by omega) hN
  obtain ⟨c7, x7, y7, t7, p7, q7, w7⟩ := w_open w6 (by omega) hN 1129145709
  obtain ⟨c8, x8, y8, t8, p8, q8, w8⟩ := w_four w7 (by omega) hN (nI z)
  obtain ⟨m9, g9, c9, x9, y9, t9, p9, q9, w9, l9, l9'⟩ := w_mem he.2 hz.2 ho hm hN (m6 + 8 + 4) (by omega) (z - ram) N ram 0 _ c8 x8 y8 _ t8 (by omega) (by omega) w8 (by omega) (by omega)
  obtain ⟨m10, c10, x10, y10, t10, l10, p10, q10, w10⟩ := w_close (m0 := m6) w9 (w_start w6) (by omega) (by omega) hN
  obtain ⟨c11, x11, y11, t11, p11, q11, w11⟩ := w_open w10 (by omega) hN 1400138611
  obtain ⟨c12, x12, y12, t12, p12, q12, w12⟩ := w_stk hd hst hN d N 0 _ c11 x11 y11 _ t11 (by omega) (by omega) w11 (by omega)
  obtain ⟨m13, c13, x13, y13, t13, l13, p13, q13, w13⟩ := w_close (m0 := m10) w12 (w_start w10) (by omega) (by omega) hN
  have vh : f_X6_writeHead N x3 y3 c3 (R 0) = some (c6, x6, y6) := by
    unfold f_X6_writeHead
    rw [p4, bd_s]
    simp only []
    rw [show (0 : Int32) = nI 0 from rfl, p5, p6, bd_s]
  have vm : f_X6_writeMemory N x6 y6 c6 (nI z) (nI ram) (R 1) (R 0) = some (c10, x10, y10) := by
    unfold f_X6_writeMemory
    rw [p7, bd_s]
    simp only []
    rw [p8, bd_s, show (0 : Int32) = nI 0 from rfl, p9, p10, bd_s]
  have vs : f_X6_writeStack N x10 y10 c10 (nI d) (R 2) = some (c13, x13, y13) := by
    unfold f_X6_writeStack
    rw [p11, bd_s]
    simp only []
    rw [show (0 : Int32) = nI 0 from rfl, p12, p13, bd_s]
  have vm8 : f_X8_putMemory N (J 1) (nI ram) (nI en) (nI z) (nI m6) t6 (S 0) = some (nI m10, t10) := by
    unfold f_X8_putMemory
    rw [q7, bd_s]
    simp only []
    rw [q8, bd_s, show (0 : Int32) = nI 0 from rfl, q9, q10, bd_s]
  have hw : ∃ m' b' mk' sz' ov', f_X6_writeFile N 0 0 (R 13) (nI ram) (R 0) (nI z) (nI d) (nI k) (R 1) (R 2) (R 3) (nI o) (R 9) (R 10) (R 11) (R 4) = some (b', sz', ov') ∧ ((m' ≤ 1200 ∧ sz' = nI m' ∧ ov' = 0 ∧ (∀ i, i < m' → mk' i = b' i ∧ Byt (b' i)) ∧ f_X8_save N (J 1) (nI ram) (nI en) (nI z) (nI d) (nI k) (J 9) (nI o) (S 15) (S 0) (S 1) (S 2) (S 5) (S 6) (S 7) (S 4) (S 3) = some (nI m', 0, nI m', filo 0 0 m' mk' (S 4), nI m', mk')) ∨ (ov' = 1 ∧ f_X8_save N (J 1) (nI ram) (nI en) (nI z) (nI d) (nI k) (J 9) (nI o) (S 15) (S 0) (S 1) (S 2) (S 5) (S 6) (S 7) (S 4) (S 3) = some (-4, 0, J 9, S 4, nI m', mk'))) := by
    have e1 : f_X6_writeFile N 0 0 (R 13) (nI ram) (R 0) (nI z) (nI d) (nI k) (R 1) (R 2) (R 3) (nI o) (R 9) (R 10) (R 11) (R 4) = if nI k ≤ 0 then J_X6_writeFile_45 N (nI o) (R 9) (R 10) (R 11) c13 x13 y13 else bd (f_X6_writeBlocks N x13 y13 c13 (nI k) (R 3) (R 4)) fun u21 => J_X6_writeFile_45 N (nI o) (R 9) (R 10) (R 11) u21.1 u21.2.1 u21.2.2 := by
      unfold f_X6_writeFile
      rw [p1, bd_s]
      simp only []
      rw [p2, bd_s]
      simp only []
      rw [p3, bd_s]
      simp only []
      rw [vh, bd_s]
      simp only []
      rw [vm, bd_s]
      simp only []
      rw [vs, bd_s]
    have e8 : f_X8_save N (J 1) (nI ram) (nI en) (nI z) (nI d) (nI k) (J 9) (nI o) (S 15) (S 0) (S 1) (S 2) (S 5) (S 6) (S 7) (S 4) (S 3) = if nI k ≤ 0 then J_X8_save_167 N (J 9) (nI o) (S 5) (S 6) (S 7) (S 4) (nI m13) t13 else (bd (f_X8_chunk 1296133228 (nI m13) t13) fun u67 => bd (f_X8_putFour (nI k) u67.2.1 u67.2.2) fun u69 => L_X8_save_128 (nI k) (S 2) (S 3) (fun z71 z72 z73 => bd (f_X8_close u67.1 z71 z72) fun u82 => J_X8_save_167 N (J 9) (nI o) (S 5) (S 6) (S 7) (S 4) u82.1 u82.2) N u69.1 u69.2 0) := by
      unfold f_X8_save
      rw [q1, bd_s]
      simp only []
      rw [q2, bd_s]
      simp only []
      rw [q3, bd_s]
      simp only []
      rw [q4, bd_s]
      simp only []
      rw [show (0 : Int32) = nI 0 from rfl, q5, q6, bd_s]
      simp only []
      rw [vm8, bd_s]
      simp only []
      rw [q11, bd_s]
      simp only []
      rw [q12, q13, bd_s]
    by_cases hk0 : k = 0
    · rw [if_pos (by rw [le0_n (by omega)]; exact hk0)] at e1 e8
      rw [e1, e8]
      exact w_end ho4 hoo hN w13 (by omega) (by omega) _ _
    · rw [if_neg (by rw [le0_n (by omega)]; exact hk0)] at e1 e8
      obtain ⟨c14, x14, y14, t14, p14, q14, w14⟩ := w_open w13 (by omega) hN 1296133228
      obtain ⟨c15, x15, y15, t15, p15, q15, w15⟩ := w_four w14 (by omega) hN (nI k)
      obtain ⟨c16, x16, y16, t16, p16, q16, w16⟩ := w_blk hk (st := R 3) (ln := R 4) (st' := S 2) (ln' := S 3) (fun i hi => by rw [(hbl i hi).1, (hbl i hi).2.1, (hbl i hi).2.2.1, (hbl i hi).2.2.2]; exact ⟨rfl, rfl⟩) hN k N 0 _ c15 x15 y15 _ t15 (by omega) (by omega) w15 (by omega)
      obtain ⟨m17, c17, x17, y17, t17, l17, p17, q17, w17⟩ := w_close (m0 := m13) w16 (w_start w13) (by omega) (by omega) hN
      have vb : f_X6_writeBlocks N x13 y13 c13 (nI k) (R 3) (R 4) = some (c17, x17, y17) := by
        unfold f_X6_writeBlocks
        rw [p14, bd_s]
        simp only []
        rw [p15, bd_s, show (0 : Int32) = nI 0 from rfl, p16, p17, bd_s]
      rw [vb, bd_s] at e1
      rw [q14, bd_s] at e8
      simp only [] at e8
      rw [q15, bd_s, show (0 : Int32) = nI 0 from rfl, q16, q17, bd_s] at e8
      rw [e1, e8]
      exact w_end ho4 hoo hN w17 (by omega) (by omega) _ _
  obtain ⟨m', b', mk', sz', ov', h1, h2⟩ := hw
  rcases h2 with ⟨h3, rfl, rfl, h4, h5⟩ | ⟨rfl, h5⟩
  · have v1 : f_X7_save N (R 13) (I 4) (R 0) (I 6) (I 7) (I 8) (R 1) (R 2) (R 3) (I 12) (R 9) (R 10) (R 11) (R 4) (I 13) (R 12) = some (nI m', b', nI m', 0, va_cpy b' (R 12) 0 0 1200, nI m') := by
      unfold f_X7_save f_X0_clear
      rw [er, z1, d1, b1, o1, bd_s, h1, bd_s, if_pos rfl]
      rfl
    have v2 : f_X8_save N (J 1) (J 2) (J 3) (J 4) (J 5) (J 6) (J 9) (J 10) (S 15) (S 0) (S 1) (S 2) (S 5) (S 6) (S 7) (S 4) (S 3) = some (nI m', 0, nI m', filo 0 0 m' mk' (S 4), nI m', mk') := by
      rw [er', ee', z2, d2, b2, o2]
      exact h5
    refine ⟨_, _, _, _, _, _, _, _, _, _, _, v1, v2, ram, en, hS, hM, hF, hO, ⟨m', h3, ⟨rfl, rfl⟩, fun i hi => ?_⟩, hP, hL, hU⟩
    show filo 0 0 m' mk' (S 4) i = va_cpy b' (R 12) 0 0 1200 i ∧ Byt (va_cpy b' (R 12) 0 0 1200 i)
    rw [filo_0 hi, cpy_0 (by omega)]
    exact h4 i hi
  · have v1 : f_X7_save N (R 13) (I 4) (R 0) (I 6) (I 7) (I 8) (R 1) (R 2) (R 3) (I 12) (R 9) (R 10) (R 11) (R 4) (I 13) (R 12) = some (-4, b', sz', 1, R 12, I 13) := by
      unfold f_X7_save f_X0_clear
      rw [er, z1, d1, b1, o1, bd_s, h1, bd_s, if_neg (show ¬ (1 : Int32) = 0 by decide)]
    have v2 : f_X8_save N (J 1) (J 2) (J 3) (J 4) (J 5) (J 6) (J 9) (J 10) (S 15) (S 0) (S 1) (S 2) (S 5) (S 6) (S 7) (S 4) (S 3) = some (-4, 0, J 9, S 4, nI m', mk') := by
      rw [er', ee', z2, d2, b2, o2]
      exact h5
    exact ⟨_, _, _, _, _, _, _, _, _, _, _, v1, v2, ram, en, hS, hM, hF, hO, hB, hP, hL, hU⟩
