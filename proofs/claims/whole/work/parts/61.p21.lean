/-! ===== reading the inside of a chunk ===== -/
theorem lk_headStop {seed : Int32} {en p : Nat} (he : en ≤ 256) (hp : p + 16 ≤ 1200) {b : Nat → Int32} {K : Int32 → Int32 → Int32 → Option (Int32 × Int32)} : ∀ (c fuel k : Nat) (y : Int32), k + c = 16 → c < fuel → L_X8_readHead_20 seed (nI en) (nI p) b K fuel 3 y (nI k) = K 3 y (nI 16) := by
  intro c
  induction c with
  | zero =>
    intro fuel k y h1 h2
    obtain ⟨f, rfl⟩ : ∃ f, fuel = f + 1 := ⟨fuel - 1, by omega⟩
    obtain rfl : k = 16 := by omega
    show B_X8_readHead_20 _ _ _ _ _ _ _ _ _ = _
    unfold B_X8_readHead_20
    rw [if_pos (by decide)]
  | succ c ih =>
    intro fuel k y h1 h2
    obtain ⟨f, rfl⟩ : ∃ f, fuel = f + 1 := ⟨fuel - 1, by omega⟩
    show B_X8_readHead_20 _ _ _ _ _ _ _ _ _ = _
    unfold B_X8_readHead_20 J_X8_readHead_56
    simp (disch := omega) only [show (16 : Int32) = nI 16 from rfl, nI_leI, nI_add, nI_inc, gin_n, v_orig, bd_s, bn_s, v_fail8n (f := 3) _ _ _ (by decide), ite_self]
    rw [if_neg (by omega)]
    exact ih f (k + 1) y (by omega) (by omega)
theorem lk_head {seed : Int32} {en n p : Nat} (he : en ≤ 256) (hp : p + 16 ≤ n) (hn : n ≤ 1200) {b b' r0 : Nat → Int32} (hb : ∀ i, i < n → b' i = b i ∧ Byt (b i)) (hr : ∀ i, i < 512 → r0 i = org seed en i) {K : Int32 → Option (Int32 × Int32 × Int32)} {K' : Int32 → Int32 → Int32 → Option (Int32 × Int32)} : ∀ (c fuel k : Nat) (q : Int32), k + c = 16 → c < fuel → (L_X3_readHead_2 (nI p) b r0 K fuel (nI k) = K (nI 16) ∧ L_X8_readHead_20 seed (nI en) (nI p) b' K' fuel 0 q (nI k) = K' 0 q (nI 16)) ∨ (∃ y, L_X3_readHead_2 (nI p) b r0 K fuel (nI k) = some (0, 3, y) ∧ L_X8_readHead_20 seed (nI en) (nI p) b' K' fuel 0 q (nI k) = K' 3 y (nI 16)) := by
  intro c
  induction c with
  | zero =>
    intro fuel k q h1 h2
    obtain ⟨f, rfl⟩ : ∃ f, fuel = f + 1 := ⟨fuel - 1, by omega⟩
    obtain rfl : k = 16 := by omega
    left
    constructor
    · show B_X3_readHead_2 _ _ _ _ _ _ = _
      unfold B_X3_readHead_2
      rw [if_pos (by decide)]
    · show B_X8_readHead_20 _ _ _ _ _ _ _ _ _ = _
      unfold B_X8_readHead_20
      rw [if_pos (by decide)]
  | succ c ih =>
    intro fuel k q h1 h2
    obtain ⟨f, rfl⟩ : ∃ f, fuel = f + 1 := ⟨fuel - 1, by omega⟩
    have e1 : L_X3_readHead_2 (nI p) b r0 K (f + 1) (nI k) = if b (p + k) = org seed en k then L_X3_readHead_2 (nI p) b r0 K f (nI (k + 1)) else some (0, 3, nI (p + k)) := by
      show B_X3_readHead_2 _ _ _ _ _ _ = _
      unfold B_X3_readHead_2
      simp (disch := omega) only [show (16 : Int32) = nI 16 from rfl, nI_leI, nI_add, nI_inc, gin_n, nI_clamp, v_byteAt, hr, bd_s, bn_s]
      rw [if_neg (by omega)]
      rfl
    have e8 : L_X8_readHead_20 seed (nI en) (nI p) b' K' (f + 1) 0 q (nI k) = if b (p + k) = org seed en k then L_X8_readHead_20 seed (nI en) (nI p) b' K' f 0 q (nI (k + 1)) else L_X8_readHead_20 seed (nI en) (nI p) b' K' f 3 (nI (p + k)) (nI (k + 1)) := by
      have hbk := (hb (p + k) (by omega)).1
      show B_X8_readHead_20 _ _ _ _ _ _ _ _ _ = _
      unfold B_X8_readHead_20 J_X8_readHead_56
      simp (disch := omega) only [show (16 : Int32) = nI 16 from rfl, nI_leI, nI_add, nI_inc, gin_n, nI_clamp, v_orig, hbk, v_fail8, bd_s, bn_s]
      rw [if_neg (by omega)]
    rw [e1, e8]
    by_cases h : b (p + k) = org seed en k
    · rw [if_pos h, if_pos h]
      exact ih f (k + 1) q (by omega) (by omega)
    · rw [if_neg h, if_neg h, lk_headStop he (by omega) c f (k + 1) _ (by omega) (by omega)]
      exact Or.inr ⟨_, rfl, rfl⟩
theorem l_newMem {seed : Int32} {en z : Nat} (he : en ≤ 256) (hz : z ≤ 512) {m0 : Nat → Int32} {K : (Nat → Int32) → Int32 → Option (Int32 × (Nat → Int32) × Int32 × Int32)} {N : Nat} (hN : 5000 ≤ N) : L_X8_readMemory_53 seed (nI en) (nI z) K N m0 0 = K (filo 0 0 z (org seed en) m0) (nI z) := by
  refine loop1 (L := L_X8_readMemory_53 seed (nI en) (nI z) K) (K := K) 0 z (org seed en) (fun _ _ => True) ?_ ?_ (fun _ _ _ _ => trivial) z N 0 m0 trivial (by omega) (by omega)
  · intro f y
    show B_X8_readMemory_53 _ _ _ _ _ _ _ = _
    unfold B_X8_readMemory_53
    rw [if_pos (by rw [nI_leI (by omega) (by omega)]; omega)]
  · intro f y i hp hi
    show B_X8_readMemory_53 _ _ _ _ _ _ _ = _
    unfold B_X8_readMemory_53
    rw [Nat.zero_add]
    simp (disch := omega) only [nI_leI, v_orig, gin_n, nI_clamp, bd_s, bn_s, nI_inc]
    rw [if_neg (by omega)]
theorem mem_stop {L a : Nat} {b : Nat → Int32} {u : Int32} {K : (Nat → Int32) → Int32 → Int32 → Int32 → Int32 → Option (Int32 × (Nat → Int32) × Int32 × Int32)} (f : Nat) (m : Nat → Int32) (y i p : Int32) : L_X8_readMemory_90 (nI L) (nI a) b u K (f + 1) m 6 y i p = K m 6 y i p := by
  show B_X8_readMemory_90 _ _ _ _ _ _ _ _ _ _ _ = _
  unfold B_X8_readMemory_90
  by_cases h : nI a + nI L ≤ p
  · rw [if_pos h]
  · rw [if_neg h, if_neg (by decide)]
theorem lk_memr {n a L z : Nat} (haL : a + L ≤ n) (hn : n ≤ 1200) (hz : z ≤ 512) {b b' : Nat → Int32} (hb : ∀ i, i < n → b' i = b i ∧ Byt (b i)) (K : (Nat → Int32) → Int32 → Int32 → Option (Int32 × Int32 × Int32 × (Nat → Int32))) (K' : (Nat → Int32) → Int32 → Int32 → Int32 → Int32 → Option (Int32 × (Nat → Int32) × Int32 × Int32)) : ∀ (c fuel i p : Nat) (q : Int32) (m m' : Nat → Int32), a + L ≤ p + c → c + 1 < fuel → p ≤ a + L → i ≤ z → (∀ j, j < z → m' j = m j ∧ Byt (m j)) → (∃ m2 m2' x y x' y', L_X3_readMemory_15 (nI (a + L)) b (nI z) K fuel m (nI i) (nI p) = K m2 x y ∧ L_X8_readMemory_90 (nI L) (nI a) b' (nI z) K' fuel m' 0 q (nI i) (nI p) = K' m2' 0 q x' y' ∧ ∀ j, j < z → m2' j = m2 j ∧ Byt (m2 j)) ∨ (∃ m2 m2' y x' y', L_X3_readMemory_15 (nI (a + L)) b (nI z) K fuel m (nI i) (nI p) = some (0, 6, y, m2) ∧ L_X8_readMemory_90 (nI L) (nI a) b' (nI z) K' fuel m' 0 q (nI i) (nI p) = K' m2' 6 y x' y') := by
  intro c
  induction c with
  | zero =>
    intro fuel i p q m m' h1 h2 h3 h4 hm
    obtain ⟨f, rfl⟩ : ∃ f, fuel = f + 1 := ⟨fuel - 1, by omega⟩
    obtain rfl : p = a + L := by omega
    refine Or.inl ⟨m, m', nI i, nI (a + L), nI i, nI (a + L), ?_, ?_, hm⟩
    · show B_X3_readMemory_15 _ _ _ _ _ _ _ _ = _
      unfold B_X3_readMemory_15
      rw [if_pos (by rw [nI_leI (by omega) (by omega)]; omega)]
    · show B_X8_readMemory_90 _ _ _ _ _ _ _ _ _ _ _ = _
      unfold B_X8_readMemory_90
      rw [nI_add, if_pos (by rw [nI_leI (by omega) (by omega)]; omega)]
  | succ c ih =>
    intro fuel i p q m m' h1 h2 h3 h4 hm
    obtain ⟨f, rfl⟩ : ∃ f, fuel = f + 2 := ⟨fuel - 2, by omega⟩
    by_cases hpe : p = a + L
    · subst hpe
      refine Or.inl ⟨m, m', nI i, nI (a + L), nI i, nI (a + L), ?_, ?_, hm⟩
      · show B_X3_readMemory_15 _ _ _ _ _ _ _ _ = _
        unfold B_X3_readMemory_15
        rw [if_pos (by rw [nI_leI (by omega) (by omega)]; omega)]
      · show B_X8_readMemory_90 _ _ _ _ _ _ _ _ _ _ _ = _
        unfold B_X8_readMemory_90
        rw [nI_add, if_pos (by rw [nI_leI (by omega) (by omega)]; omega)]
    · have hbp := hb p (by omega)
      have hge : ¬ nI (a + L) ≤ nI p := by rw [nI_leI (by omega) (by omega)]; omega
      by_cases h0 : b p = 0
      · have F1 : ∀ (y : Int32), y = nI p → L_X3_readMemory_15 (nI (a + L)) b (nI z) K (f + 2) m (nI i) (nI p) = if p + 2 ≤ a + L then (bd (f_X0_byteAt (nI (p + 1)) b) fun u24 => J_X3_readMemory_78 (nI z) m (nI i) (nI p) (fun z1 z2 z3 => L_X3_readMemory_15 (nI (a + L)) b (nI z) K (f + 1) z1 z2 z3) 0 2 (u24 + 1)) else some (0, 6, nI p, m) := by
          intro _ _
          show B_X3_readMemory_15 _ _ _ _ _ _ _ _ = _
          unfold B_X3_readMemory_15 J_X3_readMemory_39
          rw [if_neg hge, v_byteAt (by omega), bd_s, if_pos h0, if_pos h0, h0]
          simp (disch := omega) only [show nI p + (2 : Int32) = nI (p + 2) from nI_add p 2, show nI p + (1 : Int32) = nI (p + 1) from nI_add p 1, nI_leI]
          rfl
        have F8 : L_X8_readMemory_90 (nI L) (nI a) b' (nI z) K' (f + 2) m' 0 q (nI i) (nI p) = if a + L ≤ p + 1 then K' m' 6 (nI p) (nI i) (nI (p + 1)) else gin (nI (p + 1)) 1200 (if nI i + b' (p + 1) + 1 ≤ nI z then gin (nI (p + 1)) 1200 (bn (nI i + (b' (p + 1) + 1)) fun x38 => L_X8_readMemory_90 (nI L) (nI a) b' (nI z) K' (f + 1) m' 0 q x38 (nI (p + 2))) else K' m' 6 (nI p) (nI i) (nI (p + 1))) := by
          show B_X8_readMemory_90 _ _ _ _ _ _ _ _ _ _ _ = _
          unfold B_X8_readMemory_90 J_X8_readMemory_186 J_X8_readMemory_212
          rw [nI_add, if_neg hge, if_pos rfl, gin_n (by omega) (by omega), nI_clamp (by omega), bn_s, hbp.1, if_pos h0, v_fail8, bd_s, bn_s]
          dsimp only
          rw [mem_stop]
          simp (disch := omega) only [show nI p + (1 : Int32) = nI (p + 1) from nI_add p 1, show nI (p + 1) + (1 : Int32) = nI (p + 2) from nI_add (p + 1) 1, nI_leI, nI_clamp, bn_s]
        rw [F1 _ rfl, F8]
        by_cases h5 : p + 2 ≤ a + L
        · have hb1 := hb (p + 1) (by omega)
          obtain ⟨t, ht, et⟩ := hb1.2
          have G1 : J_X3_readMemory_78 (nI z) m (nI i) (nI p) (fun z1 z2 z3 => L_X3_readMemory_15 (nI (a + L)) b (nI z) K (f + 1) z1 z2 z3) 0 2 (nI t + 1) = if i + (t + 1) ≤ z then L_X3_readMemory_15 (nI (a + L)) b (nI z) K (f + 1) m (nI (i + (t + 1))) (nI (p + 2)) else some (0, 6, nI p, m) := by
            unfold J_X3_readMemory_78 J_X3_readMemory_111
            rw [show nI t + (1 : Int32) = nI (t + 1) from nI_add t 1, nI_add, show nI p + (2 : Int32) = nI (p + 2) from nI_add p 2, if_neg (nI_pos (by omega)), Int32.xor_zero]
            simp (disch := omega) only [show (512 : Int32) = nI 512 from rfl, nI_ltI, nI_leI]
            by_cases h6 : i + (t + 1) ≤ z
            · rw [if_pos h6, if_neg (by omega), if_pos (by omega), gin_n (by omega) (by omega), bn_s, gin_n (by omega) (by omega), nI_clamp (by omega), upd_id, bn_s, bn_s, bn_s]
            · rw [if_neg h6, if_pos (by omega)]
              rfl
          rw [if_pos h5, if_neg (show ¬ a + L ≤ p + 1 by omega), v_byteAt (by omega), bd_s, hb1.1, et, G1, gin_n (by omega) (by omega), nI_add, show nI (i + t) + (1 : Int32) = nI (i + t + 1) from nI_add (i + t) 1, show nI t + (1 : Int32) = nI (t + 1) from nI_add t 1, nI_add, gin_n (by omega) (by omega), bn_s]
          simp (disch := omega) only [nI_leI]
          by_cases h6 : i + (t + 1) ≤ z
          · rw [if_pos h6, if_pos (show i + t + 1 ≤ z by omega)]
            exact ih (f + 1) (i + (t + 1)) (p + 2) q m m' (by omega) (by omega) (by omega) h6 hm
          · rw [if_neg h6, if_neg (show ¬ i + t + 1 ≤ z by omega)]
            exact Or.inr ⟨_, _, _, _, _, rfl, rfl⟩
        · rw [if_neg h5, if_pos (show a + L ≤ p + 1 by omega)]
          exact Or.inr ⟨_, _, _, _, _, rfl, rfl⟩
      · have F1 : L_X3_readMemory_15 (nI (a + L)) b (nI z) K (f + 2) m (nI i) (nI p) = if i < z then L_X3_readMemory_15 (nI (a + L)) b (nI z) K (f + 1) (upd m i (m i ^^^ b p)) (nI (i + 1)) (nI (p + 1)) else some (0, 6, nI p, m) := by
          show B_X3_readMemory_15 _ _ _ _ _ _ _ _ = _
          unfold B_X3_readMemory_15 J_X3_readMemory_39 J_X3_readMemory_78 J_X3_readMemory_111
          rw [if_neg hge, v_byteAt (by omega), bd_s, if_neg h0, if_neg h0, show nI p + (1 : Int32) = nI (p + 1) from nI_add p 1, show nI i + (1 : Int32) = nI (i + 1) from nI_add i 1, if_neg (nI_pos (show i < 2 ^ 31 by omega))]
          simp (disch := omega) only [show (512 : Int32) = nI 512 from rfl, nI_ltI, nI_leI]
          rw [if_pos (show p + 1 ≤ a + L by omega)]
          by_cases h6 : i < z
          · rw [if_pos h6, if_neg (by omega), if_pos (by omega), gin_n (by omega) (by omega), bn_s, gin_n (by omega) (by omega), nI_clamp (by omega), bn_s, bn_s, bn_s]
          · rw [if_neg h6, if_pos (by omega)]
            rfl
        have F8 : L_X8_readMemory_90 (nI L) (nI a) b' (nI z) K' (f + 2) m' 0 q (nI i) (nI p) = if i < z then L_X8_readMemory_90 (nI L) (nI a) b' (nI z) K' (f + 1) (upd m' i (m' i ^^^ b p)) 0 q (nI (i + 1)) (nI (p + 1)) else K' m' 6 (nI p) (nI i) (nI (p + 1)) := by
          show B_X8_readMemory_90 _ _ _ _ _ _ _ _ _ _ _ = _
          unfold B_X8_readMemory_90 J_X8_readMemory_212
          rw [nI_add, if_neg hge, if_pos rfl, gin_n (by omega) (by omega), nI_clamp (show p < 2 ^ 31 by omega), bn_s, hbp.1, if_neg h0, v_fail8, bd_s, nI_inc, nI_inc]
          simp (disch := omega) only [nI_ltI, bn_s]
          by_cases h6 : i < z
          · rw [if_pos h6, if_pos h6, gin_n (by omega) (by omega), gin_n (by omega) (by omega), nI_clamp (by omega)]
          · rw [if_neg h6, if_neg h6, mem_stop]
        rw [F1, F8]
        by_cases h6 : i < z
        · rw [if_pos h6, if_pos h6]
          refine ih (f + 1) (i + 1) (p + 1) q _ _ (by omega) (by omega) (by omega) (by omega) ?_
          intro j hj
          by_cases hin : j = i
          · rw [hin, upd_s, upd_s, (hm i h6).1]
            exact ⟨rfl, Byt_xor (hm i h6).2 hbp.2⟩
          · rw [upd_n hin, upd_n hin]
            exact hm j hj
        · rw [if_neg h6, if_neg h6]
          exact Or.inr ⟨_, _, _, _, _, rfl, rfl⟩
