/-! ===== writing: the loops ===== -/
theorem w_head {seed : Int32} {en : Nat} (he : en ≤ 256) {r0 : Nat → Int32} (hr : ∀ i, i < 512 → r0 i = org seed en i) : ∀ (c fuel i m : Nat) (b : Nat → Int32) (sz ov made : Int32) (mk : Nat → Int32), i + c = 16 → c < fuel → WR m b sz ov made mk → m + c ≤ 4000 → ∃ b' sz' ov' mk', (∀ K, L_X6_writeHead_9 r0 K fuel b sz ov (nI i) = K b' sz' ov' (nI 16)) ∧ (∀ K, L_X8_save_36 seed (nI en) K fuel made mk (nI i) = K (nI (m + c)) mk' (nI 16)) ∧ WR (m + c) b' sz' ov' (nI (m + c)) mk' := by
  intro c
  induction c with
  | zero =>
    intro fuel i m b sz ov made mk h1 h2 hw hm
    obtain ⟨f, rfl⟩ : ∃ f, fuel = f + 1 := ⟨fuel - 1, by omega⟩
    obtain rfl : i = 16 := by omega
    have hmade : made = nI m := hw.1
    subst hmade
    refine ⟨b, sz, ov, mk, fun K => ?_, fun K => ?_, hw⟩
    · show B_X6_writeHead_9 _ _ _ _ _ _ _ = _
      unfold B_X6_writeHead_9
      rw [if_pos (by decide)]
    · show B_X8_save_36 _ _ _ _ _ _ _ = _
      unfold B_X8_save_36
      rw [if_pos (by decide)]
      rfl
  | succ c ih =>
    intro fuel i m b sz ov made mk h1 h2 hw hm
    obtain ⟨f, rfl⟩ : ∃ f, fuel = f + 1 := ⟨fuel - 1, by omega⟩
    obtain ⟨b1, s1, o1, k1, p1, q1, w1⟩ := w_put hw (by omega) (v := org seed en i) (w := org seed en i) (Byt_org ..) (Byt_self (Byt_org ..))
    obtain ⟨b2, s2, o2, k2, p2, q2, w2⟩ := ih f (i + 1) (m + 1) b1 s1 o1 (nI (m + 1)) k1 (by omega) (by omega) w1 (by omega)
    rw [show m + 1 + c = m + (c + 1) by omega] at q2 w2
    refine ⟨b2, s2, o2, k2, fun K => ?_, fun K => ?_, w2⟩
    · rw [← p2 K]
      show B_X6_writeHead_9 _ _ _ _ _ _ _ = _
      unfold B_X6_writeHead_9
      simp (disch := omega) only [show (16 : Int32) = nI 16 from rfl, nI_leI, gin_n, nI_clamp, nI_inc, hr, p1, bd_s, bn_s]
      rw [if_neg (by omega)]
    · rw [← q2 K]
      show B_X8_save_36 _ _ _ _ _ _ _ = _
      unfold B_X8_save_36
      simp (disch := omega) only [show (16 : Int32) = nI 16 from rfl, nI_leI, nI_inc, v_orig, q1, bd_s, bn_s]
      rw [if_neg (by omega)]
theorem w_zer1 {q m : Nat} (h0 : 0 < q) (hq : q ≤ 512) {b : Nat → Int32} {sz ov made : Int32} {mk : Nat → Int32} (hw : WR m b sz ov made mk) (hm : m + 2 ≤ 4000) (f : Nat) : ∃ b' sz' ov' mk', (∀ K, L_X6_writeZeros_2 K (f + 1) b sz ov (nI q) = L_X6_writeZeros_2 K f b' sz' ov' (nI q + (-256))) ∧ (∀ K, L_X8_putMemory_55 K (f + 1) made mk (nI q) = L_X8_putMemory_55 K f (nI (m + 2)) mk' (nI (q - min q 256))) ∧ WR (m + 2) b' sz' ov' (nI (m + 2)) mk' := by
  have hb : Byt (nI (min q 256 - 1)) := ⟨min q 256 - 1, by omega, rfl⟩
  obtain ⟨b1, s1, o1, k1, p1, q1, w1⟩ := w_put hw (by omega) (v := 0) (w := 0) Byt_0 rfl
  obtain ⟨b2, s2, o2, k2, p2, q2, w2⟩ := w_put w1 (by omega) (v := nI (min q 256 - 1)) (w := nI (min q 256 - 1)) hb (Byt_self hb)
  refine ⟨b2, s2, o2, k2, fun K => ?_, fun K => ?_, w2⟩
  · show B_X6_writeZeros_2 _ _ _ _ _ _ = _
    unfold B_X6_writeZeros_2
    rw [if_neg (by rw [le0_n (by omega)]; omega), p1, bd_s, show (256 : Int32) = nI 256 from rfl, nI_min _ _ (by omega) (by omega), show (1 : Int32) = nI 1 from rfl, nI_sub (by omega), p2, bd_s, bn_s]
  · show B_X8_putMemory_55 _ _ _ _ _ = _
    unfold B_X8_putMemory_55 J_X8_putMemory_73
    rw [if_neg (by rw [le0_n (by omega)]; omega), q1, bd_s, bd_s]
    simp (disch := omega) only [show (256 : Int32) = nI 256 from rfl, nI_leI]
    by_cases h : q ≤ 256
    · rw [if_pos h]
      rw [Nat.min_eq_left h] at q2 ⊢
      rw [show (1 : Int32) = nI 1 from rfl, nI_sub (by omega), q2, bd_s, nI_sub (by omega), bn_s]
    · rw [if_neg h]
      rw [Nat.min_eq_right (by omega)] at q2 ⊢
      rw [show (1 : Int32) = nI 1 from rfl, nI_sub (by omega), q2, bd_s, nI_sub (by omega), bn_s]
theorem w_zer0 (K : (Nat → Int32) → Int32 → Int32 → Int32 → Option ((Nat → Int32) × Int32 × Int32)) (f : Nat) (b : Nat → Int32) (sz ov x : Int32) (hx : x.toInt ≤ 0) : L_X6_writeZeros_2 K (f + 1) b sz ov x = K b sz ov x := by
  show B_X6_writeZeros_2 _ _ _ _ _ _ = _
  unfold B_X6_writeZeros_2
  rw [if_pos (by rw [leI, show (0 : Int32).toInt = 0 from rfl]; exact hx)]
theorem w_zer8 (K : Int32 → (Nat → Int32) → Int32 → Option (Int32 × (Nat → Int32))) (f : Nat) (made : Int32) (mk : Nat → Int32) : L_X8_putMemory_55 K (f + 1) made mk (nI 0) = K made mk (nI 0) := by
  show B_X8_putMemory_55 _ _ _ _ _ = _
  unfold B_X8_putMemory_55
  rw [if_pos (by decide)]
theorem m256 {q : Nat} (h : q < 2 ^ 31) : (nI q + (-256)).toInt = (q : Int) - 256 := by
  rw [addI (by rw [nI_toInt h, show (-256 : Int32).toInt = -256 from rfl]; omega), nI_toInt h, show (-256 : Int32).toInt = -256 from rfl]
  omega
theorem w_zeros {q m : Nat} (hq : q ≤ 512) {b : Nat → Int32} {sz ov made : Int32} {mk : Nat → Int32} (hw : WR m b sz ov made mk) (hm : m + 2 * q ≤ 4000) {N : Nat} (hN : 5000 ≤ N) : ∃ m' b' sz' ov' mk', f_X6_writeZeros N (nI q) sz ov b = some (b', sz', ov') ∧ (∀ K, L_X8_putMemory_55 K N made mk (nI q) = K (nI m') mk' (nI 0)) ∧ WR m' b' sz' ov' (nI m') mk' ∧ m ≤ m' ∧ m' ≤ m + 2 * q := by
  obtain ⟨n, rfl⟩ : ∃ n, N = n + 3 := ⟨N - 3, by omega⟩
  unfold f_X6_writeZeros
  by_cases h0 : q = 0
  · subst h0
    have hmade : made = nI m := hw.1
    subst hmade
    exact ⟨m, b, sz, ov, mk, w_zer0 _ _ _ _ _ _ (by decide), fun K => w_zer8 .., hw, by omega, by omega⟩
  · obtain ⟨b1, s1, o1, k1, p1, q1, w1⟩ := w_zer1 (by omega) hq hw (by omega) (n + 2)
    by_cases h1 : q ≤ 256
    · refine ⟨m + 2, b1, s1, o1, k1, ?_, fun K => ?_, w1, by omega, by omega⟩
      · rw [p1, w_zer0 _ _ _ _ _ _ (by rw [m256 (by omega)]; omega)]
      · rw [q1, Nat.min_eq_left h1, Nat.sub_self, w_zer8]
    · have e : nI q + (-256) = nI (q - 256) := by
        rw [← Int32.sub_eq_add_neg, show (256 : Int32) = nI 256 from rfl, nI_sub (by omega)]
      rw [Nat.min_eq_right (by omega)] at q1
      obtain ⟨b2, s2, o2, k2, p2, q2, w2⟩ := w_zer1 (q := q - 256) (by omega) (by omega) w1 (by omega) (n + 1)
      refine ⟨m + 2 + 2, b2, s2, o2, k2, ?_, fun K => ?_, w2, by omega, by omega⟩
      · rw [p1, e, p2, w_zer0 _ _ _ _ _ _ (by rw [m256 (by omega)]; omega)]
      · rw [q1, q2, Nat.min_eq_left (by omega), Nat.sub_self, w_zer8]
theorem w_mem {seed : Int32} {en z : Nat} (he : en ≤ 256) (hz : z ≤ 512) {r0 mem mem' : Nat → Int32} (hr : ∀ i, i < 512 → r0 i = org seed en i) (hmm : ∀ i, i < z → mem' i = mem i ∧ Byt (mem i)) {N : Nat} (hN : 5000 ≤ N) (base : Nat) (hbase : base + 2 * z ≤ 4000) : ∀ (c fuel i q m : Nat) (b : Nat → Int32) (sz ov made : Int32) (mk : Nat → Int32), i + c = z → c < fuel → WR m b sz ov made mk → m + 2 * q ≤ base + 2 * i → q ≤ i → ∃ m' q' b' sz' ov' mk', (∀ K, L_X6_writeMemory_24 N (nI z) mem r0 K fuel b sz ov (nI q) (nI i) = K b' sz' ov' (nI q') (nI z)) ∧ (∀ K, L_X8_putMemory_22 N seed (nI en) (nI z) mem' K fuel made mk (nI q) (nI i) = K (nI m') mk' (nI q') (nI z)) ∧ WR m' b' sz' ov' (nI m') mk' ∧ m ≤ m' ∧ m' ≤ base + 2 * z := by
  intro c
  induction c with
  | zero =>
    intro fuel i q m b sz ov made mk h1 h2 hw hm hqi
    obtain ⟨f, rfl⟩ : ∃ f, fuel = f + 1 := ⟨fuel - 1, by omega⟩
    obtain rfl : i = z := by omega
    have hmade : made = nI m := hw.1
    subst hmade
    refine ⟨m, q, b, sz, ov, mk, fun K => ?_, fun K => ?_, hw, by omega, by omega⟩
    · show B_X6_writeMemory_24 _ _ _ _ _ _ _ _ _ _ _ = _
      unfold B_X6_writeMemory_24
      rw [if_pos (by rw [nI_leI (by omega) (by omega)]; omega)]
    · show B_X8_putMemory_22 _ _ _ _ _ _ _ _ _ _ _ = _
      unfold B_X8_putMemory_22
      rw [if_pos (by rw [nI_leI (by omega) (by omega)]; omega)]
  | succ c ih =>
    intro fuel i q m b sz ov made mk h1 h2 hw hm hqi
    obtain ⟨f, rfl⟩ : ∃ f, fuel = f + 1 := ⟨fuel - 1, by omega⟩
    obtain ⟨hm1, hm2⟩ := hmm i (by omega)
    by_cases hx : mem i ^^^ org seed en i = 0
    · obtain ⟨m', q', b2, s2, o2, k2, p2, q2, w2, l1, l2⟩ := ih f (i + 1) (q + 1) m b sz ov made mk (by omega) (by omega) hw (by omega) (by omega)
      refine ⟨m', q', b2, s2, o2, k2, fun K => ?_, fun K => ?_, w2, l1, l2⟩
      · rw [← p2 K]
        show B_X6_writeMemory_24 _ _ _ _ _ _ _ _ _ _ _ = _
        unfold B_X6_writeMemory_24 J_X6_writeMemory_84
        simp (disch := omega) only [show (512 : Int32) = nI 512 from rfl, nI_leI, gin_n, nI_clamp, nI_inc, hr, hx, bn_s]
        rw [if_neg (by omega), if_neg (by omega), if_pos trivial]
      · rw [← q2 K]
        show B_X8_putMemory_22 _ _ _ _ _ _ _ _ _ _ _ = _
        unfold B_X8_putMemory_22 J_X8_putMemory_102
        simp (disch := omega) only [nI_leI, gin_n, nI_clamp, nI_inc, v_orig, hm1, hx, bn_s, bd_s]
        rw [if_neg (by omega), if_pos trivial]
    · obtain ⟨m1, b1, s1, o1, k1, p1, q1, w1, l0, l1⟩ := w_zeros (by omega) hw (by omega) hN (q := q)
      have hby : Byt (mem i ^^^ org seed en i) := Byt_xor hm2 (Byt_org ..)
      obtain ⟨b2, s2, o2, k2, p2, q2, w2⟩ := w_put w1 (by omega) (v := mem i ^^^ org seed en i) (w := mem i ^^^ org seed en i) hby (Byt_self hby)
      obtain ⟨m', q', b3, s3, o3, k3, p3, q3, w3, l3, l4⟩ := ih f (i + 1) 0 (m1 + 1) b2 s2 o2 (nI (m1 + 1)) k2 (by omega) (by omega) w2 (by omega) (by omega)
      refine ⟨m', q', b3, s3, o3, k3, fun K => ?_, fun K => ?_, w3, by omega, l4⟩
      · rw [← p3 K]
        show B_X6_writeMemory_24 _ _ _ _ _ _ _ _ _ _ _ = _
        unfold B_X6_writeMemory_24 J_X6_writeMemory_84
        simp (disch := omega) only [show (512 : Int32) = nI 512 from rfl, nI_leI, gin_n, nI_clamp, nI_inc, hr, bn_s, p1, p2, bd_s]
        rw [if_neg (by omega), if_neg (by omega), if_neg hx]
        rfl
      · rw [← q3 K]
        show B_X8_putMemory_22 _ _ _ _ _ _ _ _ _ _ _ = _
        unfold B_X8_putMemory_22 J_X8_putMemory_102
        simp (disch := omega) only [nI_leI, gin_n, nI_clamp, nI_inc, v_orig, hm1, q1, q2, bn_s, bd_s]
        rw [if_neg (by omega), if_neg hx]
