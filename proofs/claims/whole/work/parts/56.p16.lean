/-! ===== writing: stack, blocks, others ===== -/
theorem w_stk {d : Nat} (hd : d ≤ 40) {stk stk' : Nat → Int32} (hs : ∀ i, i < d → stk' i = stk i) {N : Nat} (hN : 5000 ≤ N) : ∀ (c fuel i m : Nat) (b : Nat → Int32) (sz ov made : Int32) (mk : Nat → Int32), i + c = d → c < fuel → WR m b sz ov made mk → m + 4 * c ≤ 4000 → ∃ b' sz' ov' mk', (∀ K, L_X6_writeStack_9 N (nI d) stk K fuel b sz ov (nI i) = K b' sz' ov' (nI d)) ∧ (∀ K, L_X8_save_75 (nI d) stk' K fuel made mk (nI i) = K (nI (m + 4 * c)) mk' (nI d)) ∧ WR (m + 4 * c) b' sz' ov' (nI (m + 4 * c)) mk' := by
  intro c
  induction c with
  | zero =>
    intro fuel i m b sz ov made mk h1 h2 hw hm
    obtain ⟨f, rfl⟩ : ∃ f, fuel = f + 1 := ⟨fuel - 1, by omega⟩
    obtain rfl : i = d := by omega
    have hmade : made = nI m := hw.1
    subst hmade
    refine ⟨b, sz, ov, mk, fun K => ?_, fun K => ?_, hw⟩
    · show B_X6_writeStack_9 _ _ _ _ _ _ _ _ _ = _
      unfold B_X6_writeStack_9
      rw [if_pos (by rw [nI_leI (by omega) (by omega)]; omega)]
    · show B_X8_save_75 _ _ _ _ _ _ _ = _
      unfold B_X8_save_75
      rw [if_pos (by rw [nI_leI (by omega) (by omega)]; omega)]
      rfl
  | succ c ih =>
    intro fuel i m b sz ov made mk h1 h2 hw hm
    obtain ⟨f, rfl⟩ : ∃ f, fuel = f + 1 := ⟨fuel - 1, by omega⟩
    obtain ⟨b1, s1, o1, k1, p1, q1, w1⟩ := w_four hw (by omega) hN (stk i)
    obtain ⟨b2, s2, o2, k2, p2, q2, w2⟩ := ih f (i + 1) (m + 4) b1 s1 o1 (nI (m + 4)) k1 (by omega) (by omega) w1 (by omega)
    rw [show m + 4 + 4 * c = m + 4 * (c + 1) by omega] at q2 w2
    have e := hs i (by omega)
    refine ⟨b2, s2, o2, k2, fun K => ?_, fun K => ?_, w2⟩
    · rw [← p2 K]
      show B_X6_writeStack_9 _ _ _ _ _ _ _ _ _ = _
      unfold B_X6_writeStack_9
      simp (disch := omega) only [nI_leI, gin_n, nI_clamp, nI_inc, p1, bd_s, bn_s]
      rw [if_neg (by omega)]
    · rw [← q2 K]
      show B_X8_save_75 _ _ _ _ _ _ _ = _
      unfold B_X8_save_75
      simp (disch := omega) only [nI_leI, gin_n, nI_clamp, nI_inc, e, q1, bd_s, bn_s]
      rw [if_neg (by omega)]
theorem w_blk {k : Nat} (hk : k ≤ 8) {st ln st' ln' : Nat → Int32} (hs : ∀ i, i < k → st' i = st i ∧ ln' i = ln i) {N : Nat} (hN : 5000 ≤ N) : ∀ (c fuel i m : Nat) (b : Nat → Int32) (sz ov made : Int32) (mk : Nat → Int32), i + c = k → c < fuel → WR m b sz ov made mk → m + 8 * c ≤ 4000 → ∃ b' sz' ov' mk', (∀ K, L_X6_writeBlocks_17 N (nI k) st ln K fuel b sz ov (nI i) = K b' sz' ov' (nI k)) ∧ (∀ K, L_X8_save_128 (nI k) st' ln' K fuel made mk (nI i) = K (nI (m + 8 * c)) mk' (nI k)) ∧ WR (m + 8 * c) b' sz' ov' (nI (m + 8 * c)) mk' := by
  intro c
  induction c with
  | zero =>
    intro fuel i m b sz ov made mk h1 h2 hw hm
    obtain ⟨f, rfl⟩ : ∃ f, fuel = f + 1 := ⟨fuel - 1, by omega⟩
    obtain rfl : i = k := by omega
    have hmade : made = nI m := hw.1
    subst hmade
    refine ⟨b, sz, ov, mk, fun K => ?_, fun K => ?_, hw⟩
    · show B_X6_writeBlocks_17 _ _ _ _ _ _ _ _ _ _ = _
      unfold B_X6_writeBlocks_17
      rw [if_pos (by rw [nI_leI (by omega) (by omega)]; omega)]
    · show B_X8_save_128 _ _ _ _ _ _ _ _ = _
      unfold B_X8_save_128
      rw [if_pos (by rw [nI_leI (by omega) (by omega)]; omega)]
      rfl
  | succ c ih =>
    intro fuel i m b sz ov made mk h1 h2 hw hm
    obtain ⟨f, rfl⟩ : ∃ f, fuel = f + 1 := ⟨fuel - 1, by omega⟩
    obtain ⟨b1, s1, o1, k1, p1, q1, w1⟩ := w_four hw (by omega) hN (st i)
    obtain ⟨b3, s3, o3, k3, p3, q3, w3⟩ := w_four w1 (by omega) hN (ln i)
    obtain ⟨b2, s2, o2, k2, p2, q2, w2⟩ := ih f (i + 1) (m + 4 + 4) b3 s3 o3 (nI (m + 4 + 4)) k3 (by omega) (by omega) w3 (by omega)
    rw [show m + 4 + 4 + 8 * c = m + 8 * (c + 1) by omega] at q2 w2
    have e := hs i (by omega)
    refine ⟨b2, s2, o2, k2, fun K => ?_, fun K => ?_, w2⟩
    · rw [← p2 K]
      show B_X6_writeBlocks_17 _ _ _ _ _ _ _ _ _ _ = _
      unfold B_X6_writeBlocks_17
      simp (disch := omega) only [nI_leI, gin_n, nI_clamp, nI_inc, p1, p3, bd_s, bn_s]
      rw [if_neg (by omega)]
    · rw [← q2 K]
      show B_X8_save_128 _ _ _ _ _ _ _ _ = _
      unfold B_X8_save_128
      simp (disch := omega) only [nI_leI, gin_n, nI_clamp, nI_inc, e.1, e.2, q1, q3, bd_s, bn_s]
      rw [if_neg (by omega)]
theorem w_oth1 {o n : Nat} (ho : o < 4) (hn : n ≤ 60) {ln ln' by1 by8 : Nat → Int32} (h1 : ln o = nI n) (h8 : ln' o = nI n) (hb : ∀ i, i < n → by8 (60 * o + i) = by1 (60 * o + i) ∧ Byt (by1 (60 * o + i))) : ∀ (c fuel i m : Nat) (b : Nat → Int32) (sz ov made : Int32) (mk : Nat → Int32), i + c = n → c < fuel → WR m b sz ov made mk → m + c ≤ 4000 → ∃ b' sz' ov' mk', (∀ K, L_X6_writeOthers_24 ln by1 (nI o) K fuel b sz ov (nI i) = K b' sz' ov' (nI n)) ∧ (∀ K, L_X8_save_190 ln' by8 (nI o) K fuel made mk (nI i) = K (nI (m + c)) mk' (nI n)) ∧ WR (m + c) b' sz' ov' (nI (m + c)) mk' := by
  intro c
  induction c with
  | zero =>
    intro fuel i m b sz ov made mk h3 h2 hw hm
    obtain ⟨f, rfl⟩ : ∃ f, fuel = f + 1 := ⟨fuel - 1, by omega⟩
    obtain rfl : i = n := by omega
    have hmade : made = nI m := hw.1
    subst hmade
    refine ⟨b, sz, ov, mk, fun K => ?_, fun K => ?_, hw⟩
    · show B_X6_writeOthers_24 _ _ _ _ _ _ _ _ _ = _
      unfold B_X6_writeOthers_24
      simp (disch := omega) only [gin_n, nI_clamp, h1, nI_leI]
      rw [if_pos (Nat.le_refl _)]
    · show B_X8_save_190 _ _ _ _ _ _ _ _ = _
      unfold B_X8_save_190
      simp (disch := omega) only [gin_n, nI_clamp, h8, nI_leI]
      rw [if_pos (Nat.le_refl _)]
      rfl
  | succ c ih =>
    intro fuel i m b sz ov made mk h3 h2 hw hm
    obtain ⟨f, rfl⟩ : ∃ f, fuel = f + 1 := ⟨fuel - 1, by omega⟩
    obtain ⟨e1, e2⟩ := hb i (by omega)
    obtain ⟨b1, s1, o1, k1, p1, q1, w1⟩ := w_put hw (by omega) (v := by1 (60 * o + i)) (w := by1 (60 * o + i)) e2 (Byt_self e2)
    obtain ⟨b2, s2, o2, k2, p2, q2, w2⟩ := ih f (i + 1) (m + 1) b1 s1 o1 (nI (m + 1)) k1 (by omega) (by omega) w1 (by omega)
    rw [show m + 1 + c = m + (c + 1) by omega] at q2 w2
    refine ⟨b2, s2, o2, k2, fun K => ?_, fun K => ?_, w2⟩
    · rw [← p2 K]
      show B_X6_writeOthers_24 _ _ _ _ _ _ _ _ _ = _
      unfold B_X6_writeOthers_24
      simp (disch := omega) only [show (60 : Int32) = nI 60 from rfl, nI_mul, nI_inc, nI_add, gin_n, nI_clamp, h1, nI_leI, Nat.mul_comm o 60, p1, bd_s, bn_s]
      rw [if_neg (by omega)]
    · rw [← q2 K]
      show B_X8_save_190 _ _ _ _ _ _ _ _ = _
      unfold B_X8_save_190
      simp (disch := omega) only [show (60 : Int32) = nI 60 from rfl, nI_mul, nI_inc, nI_add, gin_n, nI_clamp, h8, nI_leI, e1, q1, bd_s, bn_s]
      rw [if_neg (by omega)]
theorem w_oth {o : Nat} {n : Nat → Nat} (ho : o ≤ 4) {r9 r10 r11 s5 s6 s7 : Nat → Int32} (hoo : ∀ k, k < o → n k ≤ 60 ∧ s5 k = r9 k ∧ r10 k = nI (n k) ∧ s6 k = nI (n k) ∧ ∀ i, i < n k → s7 (60 * k + i) = r11 (60 * k + i) ∧ Byt (r11 (60 * k + i))) {N : Nat} (hN : 5000 ≤ N) : ∀ (c fuel i m : Nat) (b : Nat → Int32) (sz ov made : Int32) (mk : Nat → Int32), i + c = o → c < fuel → WR m b sz ov made mk → m + 70 * c ≤ 4000 → ∃ m' b' sz' ov' mk', (∀ K, L_X6_writeOthers_2 N (nI o) r9 r10 r11 K fuel b sz ov (nI i) = K b' sz' ov' (nI o)) ∧ (∀ K, L_X8_save_169 N (nI o) s5 s6 s7 K fuel made mk (nI i) = K (nI m') mk' (nI o)) ∧ WR m' b' sz' ov' (nI m') mk' ∧ m' ≤ m + 70 * c ∧ m ≤ m' := by
  intro c
  induction c with
  | zero =>
    intro fuel i m b sz ov made mk h1 h2 hw hm
    obtain ⟨f, rfl⟩ : ∃ f, fuel = f + 1 := ⟨fuel - 1, by omega⟩
    obtain rfl : i = o := by omega
    have hmade : made = nI m := hw.1
    subst hmade
    refine ⟨m, b, sz, ov, mk, fun K => ?_, fun K => ?_, hw, by omega, by omega⟩
    · show B_X6_writeOthers_2 _ _ _ _ _ _ _ _ _ _ _ = _
      unfold B_X6_writeOthers_2
      rw [if_pos (by rw [nI_leI (by omega) (by omega)]; omega)]
    · show B_X8_save_169 _ _ _ _ _ _ _ _ _ _ = _
      unfold B_X8_save_169
      rw [if_pos (by rw [nI_leI (by omega) (by omega)]; omega)]
  | succ c ih =>
    intro fuel i m b sz ov made mk h3 h2 hw hm
    obtain ⟨f, rfl⟩ : ∃ f, fuel = f + 1 := ⟨fuel - 1, by omega⟩
    obtain ⟨e1, e2, e3, e4, e5⟩ := hoo i (by omega)
    obtain ⟨b1, s1, o1, k1, p1, q1, w1⟩ := w_open hw (by omega) hN (r9 i)
    obtain ⟨b2, s2, o2, k2, p2, q2, w2⟩ := w_oth1 (by omega) e1 e3 e4 e5 (n i) N 0 (m + 8) b1 s1 o1 (nI (m + 8)) k1 (by omega) (by omega) w1 (by omega)
    obtain ⟨m3, b3, s3, o3, k3, l3, p3, q3, w3⟩ := w_close (m0 := m) w2 (w_start hw) (by omega) (by omega) hN
    have l4 : m + 8 + n i ≤ m3 ∨ True := Or.inr trivial
    obtain ⟨m', b4, s4, o4, k4, p4, q4, w4, l5, l6⟩ := ih f (i + 1) m3 b3 s3 o3 (nI m3) k3 (by omega) (by omega) w3 (by omega)
    refine ⟨m', b4, s4, o4, k4, fun K => ?_, fun K => ?_, w4, by omega, by omega⟩
    · rw [← p4 K]
      show B_X6_writeOthers_2 _ _ _ _ _ _ _ _ _ _ _ = _
      unfold B_X6_writeOthers_2
      rw [show (0 : Int32) = nI 0 from rfl]
      simp (disch := omega) only [nI_leI, gin_n, nI_clamp, nI_inc, p1, p2, p3, bd_s, bn_s]
      rw [if_neg (by omega)]
    · rw [← q4 K]
      show B_X8_save_169 _ _ _ _ _ _ _ _ _ _ = _
      unfold B_X8_save_169
      rw [show (0 : Int32) = nI 0 from rfl]
      simp (disch := omega) only [nI_leI, gin_n, nI_clamp, nI_inc, e2, q1, q2, q3, bd_s, bn_s]
      rw [if_neg (by omega)]
