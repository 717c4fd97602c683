/-! ===== writing: the class's draft beside the reference's making ===== -/
def WR (m : Nat) (b : Nat → Int32) (sz ov made : Int32) (mk : Nat → Int32) : Prop := made = nI m ∧ ((m ≤ 1200 ∧ sz = nI m ∧ ov = 0 ∧ ∀ i, i < m → mk i = b i ∧ Byt (b i)) ∨ (1200 < m ∧ sz = nI 1200 ∧ ov = 1))
theorem w_put {m : Nat} {b : Nat → Int32} {sz ov made : Int32} {mk : Nat → Int32} (h : WR m b sz ov made mk) (hm : m < 4000) {v w : Int32} (hv : Byt v) (hw : w &&& 255 = v) : ∃ b' sz' ov' mk', f_X0_add v sz ov b = some (b', sz', ov') ∧ f_X8_put w made mk = some (nI (m + 1), mk') ∧ WR (m + 1) b' sz' ov' (nI (m + 1)) mk' := by
  obtain ⟨rfl, h⟩ := h
  have e8 : f_X8_put w (nI m) mk = some (nI (m + 1), upd mk m v) := by
    unfold f_X8_put
    rw [hw]
    simp (disch := omega) only [gin_n, nI_clamp, bn_s, show nI m + (1 : Int32) = nI (m + 1) from nI_1 m]
  rcases h with ⟨h1, rfl, rfl, h2⟩ | ⟨h1, rfl, rfl⟩
  · by_cases h3 : m < 1200
    · refine ⟨_, _, _, _, v_add h3 v 0 b, e8, rfl, Or.inl ⟨by omega, rfl, rfl, ?_⟩⟩
      intro i hi
      by_cases hin : i = m
      · rw [hin, upd_s, upd_s]
        exact ⟨rfl, hv⟩
      · rw [upd_n hin, upd_n hin]
        exact h2 i (by omega)
    · have hm2 : m = 1200 := by omega
      subst hm2
      refine ⟨b, nI 1200, 1, _, ?_, e8, rfl, Or.inr ⟨by omega, rfl, rfl⟩⟩
      unfold f_X0_add
      rw [if_neg (by decide)]
  · refine ⟨b, nI 1200, 1, _, ?_, e8, rfl, Or.inr ⟨by omega, rfl, rfl⟩⟩
    unfold f_X0_add
    rw [if_neg (by decide)]
theorem st_addFour {v : Int32} {K : (Nat → Int32) → Int32 → Int32 → Int32 → Option ((Nat → Int32) × Int32 × Int32)} {n : Nat} {b b' : Nat → Int32} {sz ov sz' ov' : Int32} {k : Nat} (hk : k < 4) (h : f_X0_add (by4 v k) sz ov b = some (b', sz', ov')) : L_X0_addFour_2 v K (n + 1) b sz ov (nI k) = L_X0_addFour_2 v K n b' sz' ov' (nI (k + 1)) := by
  show B_X0_addFour_2 _ _ _ _ _ _ _ = _
  unfold B_X0_addFour_2
  rw [ush_k v k hk, h]
  simp (disch := omega) only [show (4 : Int32) = nI 4 from rfl, nI_leI, nI_inc, bd_s, bn_s]
  rw [if_neg (by omega)]
theorem Byt_self {v : Int32} (h : Byt v) : v &&& 255 = v := Byt_255 h
theorem w_four {m : Nat} {b : Nat → Int32} {sz ov made : Int32} {mk : Nat → Int32} (h : WR m b sz ov made mk) (hm : m + 4 ≤ 4000) {N : Nat} (hN : 5000 ≤ N) (v : Int32) : ∃ b' sz' ov' mk', f_X0_addFour N v sz ov b = some (b', sz', ov') ∧ f_X8_putFour v made mk = some (nI (m + 4), mk') ∧ WR (m + 4) b' sz' ov' (nI (m + 4)) mk' := by
  obtain ⟨b1, s1, o1, k1, p1, q1, w1⟩ := w_put h (by omega) (v := by4 v 0) (w := v >>> ((24 : Int32) &&& 31)) (Byt_by4 v 0) rfl
  obtain ⟨b2, s2, o2, k2, p2, q2, w2⟩ := w_put w1 (by omega) (v := by4 v 1) (w := v >>> ((16 : Int32) &&& 31)) (Byt_by4 v 1) rfl
  obtain ⟨b3, s3, o3, k3, p3, q3, w3⟩ := w_put w2 (by omega) (v := by4 v 2) (w := v >>> ((8 : Int32) &&& 31)) (Byt_by4 v 2) rfl
  obtain ⟨b4, s4, o4, k4, p4, q4, w4⟩ := w_put w3 (by omega) (v := by4 v 3) (w := v) (Byt_by4 v 3) rfl
  refine ⟨b4, s4, o4, k4, ?_, ?_, w4⟩
  · obtain ⟨n, rfl⟩ : ∃ n, N = n + 5 := ⟨N - 5, by omega⟩
    unfold f_X0_addFour
    rw [show (0 : Int32) = nI 0 from rfl, st_addFour (by omega) p1, st_addFour (by omega) p2, st_addFour (by omega) p3, st_addFour (by omega) p4]
    show B_X0_addFour_2 _ _ _ _ _ _ _ = _
    unfold B_X0_addFour_2
    rw [if_pos (by decide)]
  · unfold f_X8_putFour
    rw [q1, bd_s, q2, bd_s, q3, bd_s, q4, bd_s]
theorem w_open {m : Nat} {b : Nat → Int32} {sz ov made : Int32} {mk : Nat → Int32} (h : WR m b sz ov made mk) (hm : m + 8 ≤ 4000) {N : Nat} (hN : 5000 ≤ N) (v : Int32) : ∃ b' sz' ov' mk', f_X6_openChunk N v sz ov b = some (sz, b', sz', ov') ∧ f_X8_chunk v made mk = some (nI (m + 4), nI (m + 8), mk') ∧ WR (m + 8) b' sz' ov' (nI (m + 8)) mk' := by
  obtain ⟨b1, s1, o1, k1, p1, q1, w1⟩ := w_four h (by omega) hN v
  obtain ⟨b2, s2, o2, k2, p2, q2, w2⟩ := w_four w1 (by omega) hN 0
  refine ⟨b2, s2, o2, k2, ?_, ?_, w2⟩
  · unfold f_X6_openChunk
    rw [p1, bd_s, p2, bd_s]
  · unfold f_X8_chunk
    rw [q1, bd_s, q2, bd_s]
    simp only []
    rw [show (4 : Int32) = nI 4 from rfl, nI_sub (by omega)]
    congr 3
theorem v_put4 {m : Nat} (hm : m + 4 ≤ 4000) (v : Int32) (mk : Nat → Int32) : f_X8_putFour v (nI m) mk = some (nI (m + 4), put4 mk m v) := by
  have e : ∀ (w : Int32) (j : Nat) (g : Nat → Int32), j < 4000 → f_X8_put w (nI j) g = some (nI (j + 1), upd g j (w &&& 255)) := by
    intro w j g hj
    unfold f_X8_put
    simp (disch := omega) only [gin_n, nI_clamp, bn_s, show nI j + (1 : Int32) = nI (j + 1) from nI_1 j]
  unfold f_X8_putFour
  rw [e _ _ _ (by omega), bd_s, e _ _ _ (by omega), bd_s, e _ _ _ (by omega), bd_s, e _ _ _ (by omega), bd_s]
  rfl
theorem put4_ok {n p : Nat} {b mk : Nat → Int32} {v : Int32} (h : ∀ i, i < n → mk i = b i ∧ Byt (b i)) : ∀ i, i < n → put4 mk p v i = put4 b p v i ∧ Byt (put4 b p v i) := by
  intro j hj
  by_cases hin : p ≤ j ∧ j < p + 4
  · obtain ⟨k, rfl⟩ : ∃ k, j = p + k := ⟨j - p, by omega⟩
    rw [put4_in _ _ _ (by omega), put4_in _ _ _ (by omega)]
    exact ⟨rfl, Byt_by4 ..⟩
  · rw [put4_out (by omega), put4_out (by omega)]
    exact h j hj
theorem w_close {m0 m : Nat} {b : Nat → Int32} {sz ov made st : Int32} {mk : Nat → Int32} (h : WR m b sz ov made mk) (hst : m0 ≤ 1200 → st = nI m0) (h0 : m0 + 8 ≤ m) (hm : m + 1 ≤ 4000) {N : Nat} (hN : 5000 ≤ N) : ∃ m' b' sz' ov' mk', (m ≤ m' ∧ m' ≤ m + 1) ∧ f_X6_closeChunk N st sz ov b = some (b', sz', ov') ∧ f_X8_close (nI (m0 + 4)) made mk = some (nI m', mk') ∧ WR m' b' sz' ov' (nI m') mk' := by
  obtain ⟨rfl, h⟩ := h
  have e8 : f_X8_close (nI (m0 + 4)) (nI m) mk = if (m - m0 - 8) % 2 = 1 then some (nI (m + 1), upd (put4 mk (m0 + 4) (nI (m - m0 - 8))) m 0) else some (nI m, put4 mk (m0 + 4) (nI (m - m0 - 8))) := by
    unfold f_X8_close f_X8_putAt f_X8_put
    simp (disch := omega) only [show (4 : Int32) = nI 4 from rfl, show (2 : Int32) = nI 2 from rfl, show (1 : Int32) = nI 1 from rfl, nI_sub, nI_rem, nI_eq, v_put4, bn_s, bd_s, gin_n, nI_clamp, nI_add]
    rw [show m - (m0 + 4) - 4 = m - m0 - 8 by omega]
    rfl
  rcases h with ⟨h1, rfl, rfl, h2⟩ | ⟨h1, rfl, rfl⟩
  · rw [hst (by omega)]
    have e1 : f_X6_closeChunk N (nI m0) (nI m) 0 b = if (m - m0 - 8) % 2 = 0 then some (put4 b (m0 + 4) (nI (m - m0 - 8)), nI m, 0) else bd (f_X0_add 0 (nI m) 0 (put4 b (m0 + 4) (nI (m - m0 - 8)))) fun u5 => some (u5.1, u5.2.1, u5.2.2) := by
      unfold f_X6_closeChunk
      rw [show (8 : Int32) = nI 8 from rfl, nI_sub (by omega), nI_sub (by omega), bn_s, show (4 : Int32) = nI 4 from rfl, nI_add, v_setFour hN (by omega), bd_s, show (1 : Int32) = nI 1 from rfl, nI_and, Nat.and_one_is_mod]
      simp (disch := omega) only [eq0_n]
    rw [e1, e8]
    by_cases hp : (m - m0 - 8) % 2 = 0
    · rw [if_pos hp, if_neg (by omega)]
      exact ⟨m, _, _, _, _, ⟨by omega, by omega⟩, rfl, rfl, rfl, Or.inl ⟨h1, rfl, rfl, put4_ok h2⟩⟩
    · rw [if_neg hp, if_pos (by omega)]
      have w := w_put (m := m) (b := put4 b (m0 + 4) (nI (m - m0 - 8))) (sz := nI m) (ov := 0) (made := nI m) (mk := put4 mk (m0 + 4) (nI (m - m0 - 8))) ⟨rfl, Or.inl ⟨h1, rfl, rfl, put4_ok h2⟩⟩ (by omega) (v := 0) (w := 0) Byt_0 rfl
      obtain ⟨b', sz', ov', mk', q1, q2, q3⟩ := w
      have q4 : f_X8_put 0 (nI m) (put4 mk (m0 + 4) (nI (m - m0 - 8))) = some (nI (m + 1), upd (put4 mk (m0 + 4) (nI (m - m0 - 8))) m 0) := by
        unfold f_X8_put
        simp (disch := omega) only [gin_n, nI_clamp, bn_s, show nI m + (1 : Int32) = nI (m + 1) from nI_1 m]
        rfl
      rw [q4] at q2
      rw [q1, bd_s, q2]
      exact ⟨m + 1, _, _, _, _, ⟨by omega, by omega⟩, rfl, rfl, q3⟩
  · have e1 : ∃ b', f_X6_closeChunk N st (nI 1200) 1 b = some (b', nI 1200, 1) := by
      unfold f_X6_closeChunk
      rw [bn_s]
      obtain ⟨b', hb'⟩ := sp_setFour hN (st + 4) (nI 1200 - st - 8) b
      rw [hb', bd_s]
      by_cases hp : (nI 1200 - st - 8) &&& 1 = 0
      · rw [if_pos hp]; exact ⟨_, rfl⟩
      · rw [if_neg hp]
        unfold f_X0_add
        rw [if_neg (by decide)]
        exact ⟨_, rfl⟩
    obtain ⟨b', e1⟩ := e1
    rw [e1, e8]
    by_cases hp : (m - m0 - 8) % 2 = 1
    · rw [if_pos hp]
      exact ⟨m + 1, _, _, _, _, ⟨by omega, by omega⟩, rfl, rfl, rfl, Or.inr ⟨by omega, rfl, rfl⟩⟩
    · rw [if_neg hp]
      exact ⟨m, _, _, _, _, ⟨by omega, by omega⟩, rfl, rfl, rfl, Or.inr ⟨by omega, rfl, rfl⟩⟩
theorem w_start {m : Nat} {b : Nat → Int32} {sz ov made : Int32} {mk : Nat → Int32} (h : WR m b sz ov made mk) : m ≤ 1200 → sz = nI m := by
  intro hm
  obtain ⟨_, h⟩ := h
  rcases h with ⟨h1, h2, _⟩ | ⟨h1, _⟩
  · exact h2
  · omega
