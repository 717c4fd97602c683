/-! ===== loops that fill arrays; what is brought back ===== -/
def filo (c a b : Nat) (g z : Nat → Int32) : Nat → Int32 := fun j => if c + a ≤ j ∧ j < c + b then g (j - c) else z j
theorem filo_e {c a b : Nat} {g z : Nat → Int32} (h : b ≤ a) : filo c a b g z = z := by
  funext j
  exact if_neg (by omega)
theorem filo_st {c a b : Nat} {g z : Nat → Int32} (h : a < b) : filo c (a + 1) b g (upd z (c + a) (g a)) = filo c a b g z := by
  funext j
  show (if c + (a + 1) ≤ j ∧ j < c + b then g (j - c) else upd z (c + a) (g a) j) = (if c + a ≤ j ∧ j < c + b then g (j - c) else z j)
  by_cases e : j = c + a
  · rw [e, if_neg (by omega), if_pos (by omega), upd_s, Nat.add_sub_cancel_left]
  · rw [upd_n e]
    by_cases h2 : c + a ≤ j ∧ j < c + b
    · rw [if_pos (by omega), if_pos h2]
    · rw [if_neg (by omega), if_neg h2]
theorem filo_in {c b : Nat} {g z : Nat → Int32} {j : Nat} (h : j < b) : filo c 0 b g z (c + j) = g j := by
  unfold filo
  rw [if_pos (by omega), Nat.add_sub_cancel_left]
theorem filo_out {c a b : Nat} {g z : Nat → Int32} {j : Nat} (h : ¬ (c + a ≤ j ∧ j < c + b)) : filo c a b g z j = z j := if_neg h
theorem filo_0 {b : Nat} {g z : Nat → Int32} {j : Nat} (h : j < b) : filo 0 0 b g z j = g j := by
  unfold filo
  rw [if_pos (by omega), Nat.sub_zero]
theorem loop1 {β : Type} {L : Nat → (Nat → Int32) → Int32 → Option β} {K : (Nat → Int32) → Int32 → Option β} (c hi : Nat) (g : Nat → Int32) (P : Nat → (Nat → Int32) → Prop)
    (he : ∀ f z, L (f + 1) z (nI hi) = K z (nI hi))
    (hs : ∀ f z i, P i z → i < hi → L (f + 1) z (nI i) = L f (upd z (c + i) (g i)) (nI (i + 1)))
    (hP : ∀ z i, P i z → i < hi → P (i + 1) (upd z (c + i) (g i))) :
    ∀ m fuel i z, P i z → i + m = hi → m < fuel → L fuel z (nI i) = K (filo c i hi g z) (nI hi) := by
  intro m
  induction m with
  | zero =>
    intro fuel i z hp h1 h2
    obtain ⟨f, rfl⟩ : ∃ f, fuel = f + 1 := ⟨fuel - 1, by omega⟩
    rw [show i = hi by omega, he, filo_e (Nat.le_refl _)]
  | succ m ih =>
    intro fuel i z hp h1 h2
    obtain ⟨f, rfl⟩ : ∃ f, fuel = f + 1 := ⟨fuel - 1, by omega⟩
    rw [hs f z i hp (by omega), ih f (i + 1) _ (hP z i hp (by omega)) (by omega) (by omega), filo_st (by omega)]
theorem loop2 {β : Type} {L : Nat → (Nat → Int32) → (Nat → Int32) → Int32 → Option β} {K : (Nat → Int32) → (Nat → Int32) → Int32 → Option β} (c hi : Nat) (g g2 : Nat → Int32) (P : Nat → (Nat → Int32) → (Nat → Int32) → Prop)
    (he : ∀ f z y, L (f + 1) z y (nI hi) = K z y (nI hi))
    (hs : ∀ f z y i, P i z y → i < hi → L (f + 1) z y (nI i) = L f (upd z (c + i) (g i)) (upd y (c + i) (g2 i)) (nI (i + 1)))
    (hP : ∀ z y i, P i z y → i < hi → P (i + 1) (upd z (c + i) (g i)) (upd y (c + i) (g2 i))) :
    ∀ m fuel i z y, P i z y → i + m = hi → m < fuel → L fuel z y (nI i) = K (filo c i hi g z) (filo c i hi g2 y) (nI hi) := by
  intro m
  induction m with
  | zero =>
    intro fuel i z y hp h1 h2
    obtain ⟨f, rfl⟩ : ∃ f, fuel = f + 1 := ⟨fuel - 1, by omega⟩
    rw [show i = hi by omega, he, filo_e (Nat.le_refl _), filo_e (Nat.le_refl _)]
  | succ m ih =>
    intro fuel i z y hp h1 h2
    obtain ⟨f, rfl⟩ : ∃ f, fuel = f + 1 := ⟨fuel - 1, by omega⟩
    rw [hs f z y i hp (by omega), ih f (i + 1) _ _ (hP z y i hp (by omega)) (by omega) (by omega), filo_st (by omega), filo_st (by omega)]
/-- memory brought back, guarded bytes left -/
def brg (g q z : Nat) (X m : Nat → Int32) : Nat → Int32 := fun i => if g ≤ i ∧ i < q ∧ i < z then m i else X i
def brt (g q z z' : Nat) (X m : Nat → Int32) : Nat → Int32 := filo 0 0 z' (brg g q z X m) m
theorem brt_ok {g q z z' : Nat} {X m X' m' : Nat → Int32} (hm : ∀ i, i < z → m' i = m i ∧ Byt (m i)) (hX : ∀ i, i < z' → X' i = X i ∧ Byt (X i)) : ∀ i, i < z' → brt g q z z' X' m' i = brt g q z z' X m i ∧ Byt (brt g q z z' X m i) := by
  intro i hi
  unfold brt
  rw [filo_0 hi, filo_0 hi]
  unfold brg
  by_cases h : g ≤ i ∧ i < q ∧ i < z
  · rw [if_pos h, if_pos h]
    exact hm i h.2.2
  · rw [if_neg h, if_neg h]
    exact hX i hi
theorem upd_id (z : Nat → Int32) (i : Nat) : upd z i (z i) = z := by
  funext j
  by_cases h : j = i
  · rw [h, upd_s]
  · rw [upd_n h]
theorem nI_min (a b : Nat) (ha : a < 2 ^ 31) (hb : b < 2 ^ 31) : i_min (nI a) (nI b) = nI (min a b) := by
  unfold i_min
  simp (disch := omega) only [nI_ltI]
  by_cases h : b < a
  · rw [if_pos h, Nat.min_eq_right (by omega)]
  · rw [if_neg h, Nat.min_eq_left (by omega)]
/-- what a filling loop that reads its own array may use -/
def Und (z0 : Nat → Int32) : Nat → (Nat → Int32) → Prop := fun i z => ∀ j, i ≤ j → z j = z0 j
theorem Und_0 (z0 : Nat → Int32) : Und z0 0 z0 := fun _ _ => rfl
theorem Und_s {z0 : Nat → Int32} {g : Nat → Int32} : ∀ z i, Und z0 i z → Und z0 (i + 1) (upd z (0 + i) (g i)) := by
  intro z i h j hj
  rw [upd_n (by omega)]
  exact h j (by omega)
theorem l_become {g q z z' : Nat} {X m0 : Nat → Int32} {K : (Nat → Int32) → Int32 → Option ((Nat → Int32) × Int32 × (Nat → Int32) × Int32 × (Nat → Int32) × (Nat → Int32) × Int32)} (hg : g < 2 ^ 31) (hq : q < 2 ^ 31) (hz : z ≤ 512) (hz' : z' ≤ 512) {N : Nat} (hN : 5000 ≤ N) : L_X1_become_16 (nI g) (nI q) (nI z') X (nI (min z z')) K N m0 0 = K (brt g q z z' X m0) (nI z') := by
  have hmin : min z z' ≤ 512 := by omega
  refine loop1 (L := L_X1_become_16 (nI g) (nI q) (nI z') X (nI (min z z')) K) (K := K) 0 z' (brg g q z X m0) (Und m0) ?_ ?_ (fun z i h _ => Und_s z i h) z' N 0 m0 (Und_0 m0) (by omega) (by omega)
  · intro f y
    show B_X1_become_16 _ _ _ _ _ _ _ _ _ = _
    unfold B_X1_become_16
    rw [if_pos (by rw [nI_leI (by omega) (by omega)]; omega)]
  · intro f y i hp hi
    show B_X1_become_16 _ _ _ _ _ _ _ _ _ = _
    unfold B_X1_become_16 J_X1_become_56 J_X1_become_57 J_X1_become_78
    rw [Nat.zero_add]
    simp (disch := omega) only [show (512 : Int32) = nI 512 from rfl, nI_leI, nI_ltI, gin_n, nI_clamp, bn_s, nI_inc, i1_0, i0_0, ifT, ifF]
    rw [if_neg (by omega), if_neg (by omega)]
    unfold brg
    by_cases h1 : i < g
    · rw [if_pos h1, if_neg (by omega)]
    · rw [if_neg h1]
      by_cases h2 : q ≤ i
      · rw [if_pos h2, if_neg (by omega)]
      · rw [if_neg h2]
        by_cases h3 : min z z' ≤ i
        · rw [if_pos h3, if_neg (by omega)]
        · rw [if_neg h3, if_pos (by omega), ← hp i (Nat.le_refl _), upd_id]
theorem v_become {g q z z' : Nat} {X m0 : Nat → Int32} (hg : g < 2 ^ 31) (hq : q < 2 ^ 31) (hz : z ≤ 512) (hz' : z' ≤ 512) {N : Nat} (hN : 5000 ≤ N) (dp bl : Int32) (s1 s0 t1 t0 u1 u0 : Nat → Int32) : f_X1_become N (nI g) (nI q) (nI z) (nI z') dp bl X m0 s1 s0 t1 t0 u1 u0 = some (brt g q z z' X m0, nI z', va_cpy s1 s0 0 0 40, dp, va_cpy t1 t0 0 0 8, va_cpy u1 u0 0 0 8, bl) := by
  unfold f_X1_become
  rw [nI_min z z' (by omega) (by omega), bn_s, l_become hg hq hz hz' hN]
  rfl
theorem cpy_0 {f g : Nat → Int32} {n i : Nat} (h : i < n) : va_cpy f g 0 0 n i = f i := by
  show (if 0 ≤ i ∧ i < 0 + n then f (0 + (i - 0)) else g i) = _
  rw [if_pos (by omega), Nat.zero_add, Nat.sub_zero]
theorem v_guard {i g h : Nat} (hi : i < 2 ^ 31) (hg : g + h < 2 ^ 31) : f_X8_isGuarded (nI i) (nI g) (nI h) = some (bI (g ≤ i ∧ i < g + h)) := by
  unfold f_X8_isGuarded
  simp (disch := omega) only [nI_leI, nI_ltI, nI_add]
  by_cases h1 : i < g
  · rw [if_pos h1, bI_f (by omega)]
  · rw [if_neg h1]
    by_cases h2 : g + h ≤ i
    · rw [if_pos h2, bI_f (by omega)]
    · rw [if_neg h2, bI_t (by omega)]
theorem l_restart {seed : Int32} {en g h z : Nat} {m0 : Nat → Int32} {K : (Nat → Int32) → Int32 → Option (Int32 × Int32 × Int32 × (Nat → Int32) × Int32 × Int32)} (hg : g + h < 2 ^ 31) (he : en ≤ 512) (hz : en ≤ z) {N : Nat} (hN : 5000 ≤ N) : L_X8_restart_15 seed (nI en) (nI g) (nI h) K N m0 0 = K (brt g (g + h) z en (org seed en) m0) (nI en) := by
  refine loop1 (L := L_X8_restart_15 seed (nI en) (nI g) (nI h) K) (K := K) 0 en (brg g (g + h) z (org seed en) m0) (Und m0) ?_ ?_ (fun z i h _ => Und_s z i h) en N 0 m0 (Und_0 m0) (by omega) (by omega)
  · intro f y
    show B_X8_restart_15 _ _ _ _ _ _ _ _ = _
    unfold B_X8_restart_15
    rw [if_pos (by rw [nI_leI (by omega) (by omega)]; omega)]
  · intro f y i hp hi
    show B_X8_restart_15 _ _ _ _ _ _ _ _ = _
    unfold B_X8_restart_15 J_X8_restart_50
    rw [Nat.zero_add]
    simp (disch := omega) only [v_guard, v_orig, nI_leI, nI_ltI, gin_n, nI_clamp, bn_s, bd_s, nI_inc, bI_0]
    rw [if_neg (by omega)]
    unfold brg
    by_cases h1 : g ≤ i ∧ i < g + h
    · rw [if_neg (not_not_intro h1), if_pos (by omega), hp i (Nat.le_refl _)]
    · rw [if_pos h1, if_neg (by omega)]
theorem ok_restart {N : Nat} (hN : 5000 ≤ N) : pm_restart Rel N := by
  intro I R J S ⟨ram, en, hS, hM, hF, hO, hB, hP, hL, hU⟩
  obtain ⟨z, d, k, s, l, ⟨z1, z2⟩, ⟨d1, d2⟩, ⟨b1, b2⟩, hz, hd, hk, hm, hst, hbl, hB2⟩ := id hM
  obtain ⟨g, h, hg, hh, ⟨p1, p2⟩, ⟨p3, p4⟩⟩ := id hP
  obtain ⟨f1, f2, f3, f4⟩ := id hF
  obtain ⟨hr, he, ⟨er, er'⟩, ⟨ee, ee'⟩, ho⟩ := id hS
  have v1 : f_X7_restart N (I 0) (I 1) (I 6) (I 9) (I 10) (I 11) (R 5) (R 1) (R 6) (R 2) (R 7) (R 3) (R 8) (R 4) = some (1, brt g (g + h) z en (R 5) (R 1), nI en, va_cpy (R 6) (R 2) 0 0 40, nI 0, va_cpy (R 7) (R 3) 0 0 8, va_cpy (R 8) (R 4) 0 0 8, nI 0) := by
    unfold f_X7_restart f_X7_bringBack
    rw [p1, p2, z1, f1, v_become (by omega) (by omega) hz.2 (by omega) hN, f2, f3]
    rfl
  have v2 : f_X8_restart N (J 1) (J 3) (J 7) (J 8) (S 0) = some (1, 0, nI en, brt g (g + h) z en (org (J 1) en) (S 0), 0, 0) := by
    unfold f_X8_restart
    rw [ee', p3, p4, l_restart (z := z) (by omega) (by omega) hz.1 hN]
  refine ⟨_, _, _, _, _, _, _, _, _, _, _, _, _, v1, v2, ram, en, hS, ⟨en, 0, 0, s, l, ⟨rfl, rfl⟩, ⟨rfl, rfl⟩, ⟨rfl, rfl⟩, ⟨Nat.le_refl _, by omega⟩, by omega, by omega, ?_, fun i hi => absurd hi (by omega), fun i hi => absurd hi (by omega), fun i hi => absurd hi (by omega)⟩, hF, hO, hB, hP, hL, hU⟩
  refine brt_ok hm (fun i hi => ?_)
  rw [f4 i (by omega)]
  exact ⟨rfl, Byt_org ..⟩
