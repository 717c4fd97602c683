/-! ===== load: what was read becomes what is ===== -/
theorem l_loadA {g h z z' : Nat} {u : Int32 × Int32 × (Nat → Int32) × Int32 × (Nat → Int32) × Int32 × (Nat → Int32) × (Nat → Int32) × Int32 × (Nat → Int32) × (Nat → Int32) × (Nat → Int32) × Int32 × Int32 × Int32} {m0 : Nat → Int32} {K : (Nat → Int32) → Int32 → Option (Int32 × Int32 × Int32 × (Nat → Int32) × Int32 × (Nat → Int32) × Int32 × (Nat → Int32) × (Nat → Int32) × Int32 × (Nat → Int32) × (Nat → Int32) × (Nat → Int32) × Int32 × Int32 × Int32 × Int32 × Int32 × (Nat → Int32) × Int32 × (Nat → Int32) × Int32 × (Nat → Int32) × (Nat → Int32) × Int32 × (Nat → Int32) × (Nat → Int32) × (Nat → Int32) × Int32 × Int32 × Int32)} (hg : g + h < 2 ^ 31) (hz : z ≤ 512) (hz' : z' ≤ 512) (hu : u.2.1 = nI z') {N : Nat} (hN : 5000 ≤ N) : L_X8_load_77 (nI z) (nI g) (nI h) u K N m0 0 = K (brt g (g + h) z z' u.2.2.1 m0) (nI z') := by
  refine loop1 (L := L_X8_load_77 (nI z) (nI g) (nI h) u K) (K := K) 0 z' (brg g (g + h) z u.2.2.1 m0) (Und m0) ?_ ?_ (fun z i h _ => Und_s z i h) z' N 0 m0 (Und_0 m0) (by omega) (by omega)
  · intro f y
    show B_X8_load_77 _ _ _ _ _ _ _ _ = _
    unfold B_X8_load_77
    rw [hu, if_pos (le_n (Nat.le_refl _) (by omega))]
  · intro f y i hp hi
    show B_X8_load_77 _ _ _ _ _ _ _ _ = _
    unfold B_X8_load_77 J_X8_load_115 J_X8_load_121
    rw [Nat.zero_add]
    simp (disch := omega) only [v_guard, hu, nI_leI, nI_ltI, gin_n, nI_clamp, bn_s, bd_s, nI_inc, bI_0]
    rw [if_neg (by omega)]
    unfold brg
    by_cases h1 : g ≤ i ∧ i < g + h
    · rw [if_neg (not_not_intro h1)]
      by_cases h2 : z ≤ i
      · rw [if_pos h2, if_neg (by omega)]
      · rw [if_neg h2, if_pos (by omega), hp i (Nat.le_refl _)]
    · rw [if_pos h1, if_neg (by omega)]
theorem l_loadB {d : Nat} {u : Int32 × Int32 × (Nat → Int32) × Int32 × (Nat → Int32) × Int32 × (Nat → Int32) × (Nat → Int32) × Int32 × (Nat → Int32) × (Nat → Int32) × (Nat → Int32) × Int32 × Int32 × Int32} {m0 : Nat → Int32} {K : (Nat → Int32) → Int32 → Option (Int32 × Int32 × Int32 × (Nat → Int32) × Int32 × (Nat → Int32) × Int32 × (Nat → Int32) × (Nat → Int32) × Int32 × (Nat → Int32) × (Nat → Int32) × (Nat → Int32) × Int32 × Int32 × Int32 × Int32 × Int32 × (Nat → Int32) × Int32 × (Nat → Int32) × Int32 × (Nat → Int32) × (Nat → Int32) × Int32 × (Nat → Int32) × (Nat → Int32) × (Nat → Int32) × Int32 × Int32 × Int32)} (hd : d ≤ 40) (hu : u.2.2.2.1 = nI d) {N : Nat} (hN : 5000 ≤ N) : L_X8_load_146 u K N m0 0 = K (filo 0 0 d u.2.2.2.2.1 m0) (nI d) := by
  refine loop1 (L := L_X8_load_146 u K) (K := K) 0 d u.2.2.2.2.1 (fun _ _ => True) ?_ ?_ (fun _ _ _ _ => trivial) d N 0 m0 trivial (by omega) (by omega)
  · intro f y
    show B_X8_load_146 _ _ _ _ _ = _
    unfold B_X8_load_146
    rw [hu, if_pos (le_n (Nat.le_refl _) (by omega))]
  · intro f y i hp hi
    show B_X8_load_146 _ _ _ _ _ = _
    unfold B_X8_load_146
    rw [Nat.zero_add]
    simp (disch := omega) only [hu, nI_leI, gin_n, nI_clamp, bn_s, nI_inc]
    rw [if_neg (by omega)]
theorem l_loadC {k : Nat} {u : Int32 × Int32 × (Nat → Int32) × Int32 × (Nat → Int32) × Int32 × (Nat → Int32) × (Nat → Int32) × Int32 × (Nat → Int32) × (Nat → Int32) × (Nat → Int32) × Int32 × Int32 × Int32} {m0 m1 : Nat → Int32} {K : (Nat → Int32) → (Nat → Int32) → Int32 → Option (Int32 × Int32 × Int32 × (Nat → Int32) × Int32 × (Nat → Int32) × Int32 × (Nat → Int32) × (Nat → Int32) × Int32 × (Nat → Int32) × (Nat → Int32) × (Nat → Int32) × Int32 × Int32 × Int32 × Int32 × Int32 × (Nat → Int32) × Int32 × (Nat → Int32) × Int32 × (Nat → Int32) × (Nat → Int32) × Int32 × (Nat → Int32) × (Nat → Int32) × (Nat → Int32) × Int32 × Int32 × Int32)} (hk : k ≤ 8) (hu : u.2.2.2.2.2.1 = nI k) {N : Nat} (hN : 5000 ≤ N) : L_X8_load_182 u K N m0 m1 0 = K (filo 0 0 k u.2.2.2.2.2.2.1 m0) (filo 0 0 k u.2.2.2.2.2.2.2.1 m1) (nI k) := by
  refine loop2 (L := L_X8_load_182 u K) (K := K) 0 k u.2.2.2.2.2.2.1 u.2.2.2.2.2.2.2.1 (fun _ _ _ => True) ?_ ?_ (fun _ _ _ _ _ => trivial) k N 0 m0 m1 trivial (by omega) (by omega)
  · intro f y y2
    show B_X8_load_182 _ _ _ _ _ _ = _
    unfold B_X8_load_182
    rw [hu, if_pos (le_n (Nat.le_refl _) (by omega))]
  · intro f y y2 i hp hi
    show B_X8_load_182 _ _ _ _ _ _ = _
    unfold B_X8_load_182
    rw [Nat.zero_add]
    simp (disch := omega) only [hu, nI_leI, gin_n, nI_clamp, bn_s, nI_inc]
    rw [if_neg (by omega)]
theorem l_loadE {o L : Nat} {u : Int32 × Int32 × (Nat → Int32) × Int32 × (Nat → Int32) × Int32 × (Nat → Int32) × (Nat → Int32) × Int32 × (Nat → Int32) × (Nat → Int32) × (Nat → Int32) × Int32 × Int32 × Int32} {m0 m50 : Nat → Int32} {K : (Nat → Int32) → Int32 → Option (Int32 × Int32 × Int32 × (Nat → Int32) × Int32 × (Nat → Int32) × Int32 × (Nat → Int32) × (Nat → Int32) × Int32 × (Nat → Int32) × (Nat → Int32) × (Nat → Int32) × Int32 × Int32 × Int32 × Int32 × Int32 × (Nat → Int32) × Int32 × (Nat → Int32) × Int32 × (Nat → Int32) × (Nat → Int32) × Int32 × (Nat → Int32) × (Nat → Int32) × (Nat → Int32) × Int32 × Int32 × Int32)} (ho : o < 4) (hL : L ≤ 60) (hm : m50 o = nI L) {N : Nat} (hN : 5000 ≤ N) : L_X8_load_264 u (nI o) m50 K N m0 0 = K (filo (60 * o) 0 L (fun i => u.2.2.2.2.2.2.2.2.2.2.2.1 (60 * o + i)) m0) (nI L) := by
  refine loop1 (L := L_X8_load_264 u (nI o) m50 K) (K := K) (60 * o) L (fun i => u.2.2.2.2.2.2.2.2.2.2.2.1 (60 * o + i)) (fun _ _ => True) ?_ ?_ (fun _ _ _ _ => trivial) L N 0 m0 trivial (by omega) (by omega)
  · intro f y
    show B_X8_load_264 _ _ _ _ _ _ _ = _
    unfold B_X8_load_264
    rw [gin_n ho (by omega), nI_clamp (by omega), hm, if_pos (le_n (Nat.le_refl _) (by omega))]
  · intro f y i hp hi
    show B_X8_load_264 _ _ _ _ _ _ _ = _
    unfold B_X8_load_264
    simp (disch := omega) only [show (60 : Int32) = nI 60 from rfl, nI_mul, nI_add, gin_n, nI_clamp, hm, nI_leI, bn_s, nI_inc]
    rw [if_neg (by omega)]
theorem l_loadD {o : Nat} {ln : Nat → Nat} {u : Int32 × Int32 × (Nat → Int32) × Int32 × (Nat → Int32) × Int32 × (Nat → Int32) × (Nat → Int32) × Int32 × (Nat → Int32) × (Nat → Int32) × (Nat → Int32) × Int32 × Int32 × Int32} (ho : o ≤ 4) (hu : u.2.2.2.2.2.2.2.2.1 = nI o) (hl : ∀ k, k < o → ln k ≤ 60 ∧ u.2.2.2.2.2.2.2.2.2.2.1 k = nI (ln k)) {N : Nat} (hN : 5000 ≤ N) : ∀ (c fuel i : Nat) (a b e : Nat → Int32), i + c = o → c < fuel → (∀ k, k < i → a k = u.2.2.2.2.2.2.2.2.2.1 k ∧ b k = u.2.2.2.2.2.2.2.2.2.2.1 k ∧ ∀ j, j < ln k → e (60 * k + j) = u.2.2.2.2.2.2.2.2.2.2.2.1 (60 * k + j)) → ∃ a' b' e', (∀ K : (Nat → Int32) → (Nat → Int32) → (Nat → Int32) → Int32 → Option (Int32 × Int32 × Int32 × (Nat → Int32) × Int32 × (Nat → Int32) × Int32 × (Nat → Int32) × (Nat → Int32) × Int32 × (Nat → Int32) × (Nat → Int32) × (Nat → Int32) × Int32 × Int32 × Int32 × Int32 × Int32 × (Nat → Int32) × Int32 × (Nat → Int32) × Int32 × (Nat → Int32) × (Nat → Int32) × Int32 × (Nat → Int32) × (Nat → Int32) × (Nat → Int32) × Int32 × Int32 × Int32), L_X8_load_230 N u K fuel a b e (nI i) = K a' b' e' (nI o)) ∧ ∀ k, k < o → a' k = u.2.2.2.2.2.2.2.2.2.1 k ∧ b' k = u.2.2.2.2.2.2.2.2.2.2.1 k ∧ ∀ j, j < ln k → e' (60 * k + j) = u.2.2.2.2.2.2.2.2.2.2.2.1 (60 * k + j) := by
  intro c
  induction c with
  | zero =>
    intro fuel i a b e h1 h2 hp
    obtain ⟨f, rfl⟩ : ∃ f, fuel = f + 1 := ⟨fuel - 1, by omega⟩
    obtain rfl : i = o := by omega
    refine ⟨a, b, e, fun K => ?_, hp⟩
    show B_X8_load_230 _ _ _ _ _ _ _ _ = _
    unfold B_X8_load_230
    rw [hu, if_pos (le_n (Nat.le_refl _) (by omega))]
  | succ c ih =>
    intro fuel i a b e h1 h2 hp
    obtain ⟨f, rfl⟩ : ∃ f, fuel = f + 1 := ⟨fuel - 1, by omega⟩
    obtain ⟨l1, l2⟩ := hl i (by omega)
    have hm : upd b i (u.2.2.2.2.2.2.2.2.2.2.1 i) i = nI (ln i) := by rw [upd_s, l2]
    obtain ⟨a', b', e', hK, hR⟩ := ih f (i + 1) (upd a i (u.2.2.2.2.2.2.2.2.2.1 i)) (upd b i (u.2.2.2.2.2.2.2.2.2.2.1 i)) (filo (60 * i) 0 (ln i) (fun j => u.2.2.2.2.2.2.2.2.2.2.2.1 (60 * i + j)) e) (by omega) (by omega) (by
      intro k hk
      by_cases hki : k = i
      · subst hki
        rw [upd_s, upd_s]
        refine ⟨rfl, rfl, fun j hj => ?_⟩
        rw [filo_in hj]
      · obtain ⟨q1, q2, q3⟩ := hp k (by omega)
        have q4 := (hl k (by omega)).1
        rw [upd_n hki, upd_n hki]
        refine ⟨q1, q2, fun j hj => ?_⟩
        rw [filo_out (by omega)]
        exact q3 j hj)
    refine ⟨a', b', e', fun K => ?_, hR⟩
    rw [← hK K]
    show B_X8_load_230 _ _ _ _ _ _ _ _ = _
    unfold B_X8_load_230
    rw [hu, if_neg (nle_n (by omega) (by omega)), gin_n (by omega) (by omega), nI_clamp (by omega), bn_s, gin_n (by omega) (by omega), bn_s, gin_n (by omega) (by omega), bn_s, gin_n (by omega) (by omega), bn_s, l_loadE (by omega) l1 hm hN, bn_s, nI_inc]
set_option maxHeartbeats 4000000 in
theorem ok_load {N : Nat} (hN : 5000 ≤ N) : pm_load Rel N := by
  intro I R J S ⟨ram, en, hS, hM, hF, hO, hB, hP, hL, hU⟩
  obtain ⟨hram, hen, ⟨i4, j2⟩, ⟨i5, j3⟩, hr⟩ := id hS
  obtain ⟨g, h, hg, hh, ⟨p1, p2⟩, ⟨p3, p4⟩⟩ := id hP
  obtain ⟨n, hn, ⟨f1, f2⟩, hb⟩ := id hB
  obtain ⟨a, b, ea, eb, hab⟩ := lk_read (N := N) (ram := ram) (en := en) (n := n) (seed := J 1) (q := J 23) (b := R 12) (fl := S 4) (r0 := R 0) (mem0 := R 26) (stk := R 27) (sts := R 28) (lns := R 29) (lt := R 30) (lg := R 31) (by' := R 32) (nM := J 17) (nMe := S 16) (nSk := S 17) (nSt := S 18) (nLe := S 19) (nN := S 20) (nL := S 21) (nBy := S 22) hN hn hram hen hb hr
  rcases hab with ⟨ha, hf1, hf2, hf3⟩ | ⟨ha, hnow, at', hd, bl, ot, o, hLR⟩
  · have v1 : f_X7_load N (I 0) (I 1) (I 2) (I 3) (I 4) (I 5) (R 0) (R 26) (I 13) (R 12) (R 28) (R 29) (R 27) (R 30) (R 31) (R 32) (I 6) (I 7) (I 8) (R 1) (R 2) (R 3) (R 4) (I 12) (R 9) (R 10) (R 11) = some ((-10 : Int32) - b.2.2.2.2.2.2.2.2.2.2.2.2.2.1, a.2.1, a.2.2.1, R 1, I 6, R 2, I 7, R 3, R 4, I 8, I 12, R 9, R 10, R 11, a.2.1, a.2.2.1, a.2.2.2.1, a.2.2.2.2.1, a.2.2.2.2.2.1, a.2.2.2.2.2.2.1, a.2.2.2.2.2.2.2.1, a.2.2.2.2.2.2.2.2.1, a.2.2.2.2.2.2.2.2.2.1, a.2.2.2.2.2.2.2.2.2.2.1, a.2.2.2.2.2.2.2.2.2.2.2.1, a.2.2.2.2.2.2.2.2.2.2.2.2.1, a.2.2.2.2.2.2.2.2.2.2.2.2.2.1, a.2.2.2.2.2.2.2.2.2.2.2.2.2.2.1, a.2.2.2.2.2.2.2.2.2.2.2.2.2.2.2.1, a.2.2.2.2.2.2.2.2.2.2.2.2.2.2.2.2.1, a.2.2.2.2.2.2.2.2.2.2.2.2.2.2.2.2.2.1, a.2.2.2.2.2.2.2.2.2.2.2.2.2.2.2.2.2.2) := by
      unfold f_X7_load
      rw [i4, i5, f1, ea, bd_s, if_pos ha, hf1]
    have v2 : f_X8_load N (J 1) (J 2) (J 3) (J 4) (J 5) (J 6) (J 7) (J 8) (J 9) (J 10) (J 11) (J 12) (J 13) (J 17) (J 23) (S 4) (S 20) (S 21) (S 22) (S 18) (S 19) (S 17) (S 16) (S 0) (S 1) (S 2) (S 3) (S 5) (S 6) (S 7) = some ((-10 : Int32) - b.2.2.2.2.2.2.2.2.2.2.2.2.2.1, 0, J 4, S 0, J 5, S 1, J 6, S 2, S 3, J 10, S 5, S 6, S 7, 1, b.2.2.2.2.2.2.2.2.2.2.2.2.2.1, b.2.2.2.2.2.2.2.2.2.2.2.2.2.2, b.1, b.2.1, b.2.2.1, b.2.2.2.1, b.2.2.2.2.1, b.2.2.2.2.2.1, b.2.2.2.2.2.2.1, b.2.2.2.2.2.2.2.1, b.2.2.2.2.2.2.2.2.1, b.2.2.2.2.2.2.2.2.2.1, b.2.2.2.2.2.2.2.2.2.2.1, b.2.2.2.2.2.2.2.2.2.2.2.1, b.2.2.2.2.2.2.2.2.2.2.2.2.1, b.2.2.2.2.2.2.2.2.2.2.2.2.2.1, b.2.2.2.2.2.2.2.2.2.2.2.2.2.2) := by
      unfold f_X8_load
      rw [j2, j3, f2, eb, bd_s, if_neg (show ¬ b.2.2.2.2.2.2.2.2.2.2.2.2.2.1 ≤ 0 by rw [hf1, leI, show (0 : Int32).toInt = 0 from rfl]; omega)]
    have hne : a.2.1 ≠ 0 := by
      intro c
      rw [c] at hf3
      exact absurd hf3 (by decide)
    have hQ : RFlt (a.2.1) (a.2.2.1) 1 (b.2.2.2.2.2.2.2.2.2.2.2.2.2.1) (b.2.2.2.2.2.2.2.2.2.2.2.2.2.2) := Or.inr ⟨hne, rfl, hf1, hf2⟩
    exact ⟨_, _, _, _, _, _, _, _, _, _, _, _, _, _, _, _, _, _, _, _, _, _, _, _, _, _, _, _, _, _, _, _, _, _, _, _, _, _, _, _, _, _, _, _, _, _, _, _, _, _, _, _, _, _, _, _, _, _, _, _, _, _, v1, v2, ram, en, hS, hM, hF, hO, hB, hP, hQ, hU⟩
  · obtain ⟨z, d, k, s, l, ⟨z1, z2⟩, ⟨d1, d2⟩, ⟨b1, b2⟩, hz, hd', hk, hm, hst, hbl, hB2⟩ := id hM
    obtain ⟨⟨h0, _, _, h3, h4, ho, hbm⟩, _, ⟨zz, kk, ss, ll, ⟨zz1, hzz1, hzz2⟩, _, hme1, ⟨bb1, bb2, hkk, _⟩, hbbl, hBB⟩, ⟨dd, dd1, dd2, hdd, _, hsst⟩, ⟨ln, oo1, oo2, hoth⟩⟩ := hLR
    obtain ⟨zz2, hmm⟩ := hme1 rfl
    obtain ⟨x1, x2, x3, eK, hx⟩ := l_loadD (u := b) ho oo2 (fun k hk => ⟨(hoth k hk).1, (hoth k hk).2.2.2.1⟩) hN o N 0 (S 5) (S 6) (S 7) (by omega) (by omega) (fun k hk => absurd hk (by omega))
    have v1 : f_X7_load N (I 0) (I 1) (I 2) (I 3) (I 4) (I 5) (R 0) (R 26) (I 13) (R 12) (R 28) (R 29) (R 27) (R 30) (R 31) (R 32) (I 6) (I 7) (I 8) (R 1) (R 2) (R 3) (R 4) (I 12) (R 9) (R 10) (R 11) = some (1, I 2, I 3, brt g (g + h) z zz (a.2.2.2.2.2.2.2.2.1) (R 1), a.2.2.2.2.2.2.2.2.2.1, va_cpy (a.2.2.2.2.2.2.2.2.2.2.1) (R 2) 0 0 40, a.2.2.2.2.2.2.2.2.2.2.2.1, va_cpy (a.2.2.2.2.2.2.2.2.2.2.2.2.1) (R 3) 0 0 8, va_cpy (a.2.2.2.2.2.2.2.2.2.2.2.2.2.1) (R 4) 0 0 8, a.2.2.2.2.2.2.2.2.2.2.2.2.2.2.1, a.2.2.2.2.2.2.2.2.2.2.2.2.2.2.2.1, va_cpy (a.2.2.2.2.2.2.2.2.2.2.2.2.2.2.2.2.1) (R 9) 0 0 4, va_cpy (a.2.2.2.2.2.2.2.2.2.2.2.2.2.2.2.2.2.1) (R 10) 0 0 4, va_cpy (a.2.2.2.2.2.2.2.2.2.2.2.2.2.2.2.2.2.2) (R 11) 0 0 240, a.2.1, a.2.2.1, a.2.2.2.1, a.2.2.2.2.1, a.2.2.2.2.2.1, a.2.2.2.2.2.2.1, a.2.2.2.2.2.2.2.1, a.2.2.2.2.2.2.2.2.1, a.2.2.2.2.2.2.2.2.2.1, a.2.2.2.2.2.2.2.2.2.2.1, a.2.2.2.2.2.2.2.2.2.2.2.1, a.2.2.2.2.2.2.2.2.2.2.2.2.1, a.2.2.2.2.2.2.2.2.2.2.2.2.2.1, a.2.2.2.2.2.2.2.2.2.2.2.2.2.2.1, a.2.2.2.2.2.2.2.2.2.2.2.2.2.2.2.1, a.2.2.2.2.2.2.2.2.2.2.2.2.2.2.2.2.1, a.2.2.2.2.2.2.2.2.2.2.2.2.2.2.2.2.2.1, a.2.2.2.2.2.2.2.2.2.2.2.2.2.2.2.2.2.2) := by
      unfold f_X7_load f_X7_bringBack
      rw [i4, i5, f1, ea, bd_s, if_neg (by rw [ha]; decide), p1, p2, z1, zz1, v_become (by omega) (by omega) hz.2 hzz2 hN, bd_s, bd_s]
      rfl
    have v2 : f_X8_load N (J 1) (J 2) (J 3) (J 4) (J 5) (J 6) (J 7) (J 8) (J 9) (J 10) (J 11) (J 12) (J 13) (J 17) (J 23) (S 4) (S 20) (S 21) (S 22) (S 18) (S 19) (S 17) (S 16) (S 0) (S 1) (S 2) (S 3) (S 5) (S 6) (S 7) = some (1, 0, b.2.1, brt g (g + h) z zz (b.2.2.1) (S 0), b.2.2.2.1, filo 0 0 dd (b.2.2.2.2.1) (S 1), b.2.2.2.2.2.1, filo 0 0 kk (b.2.2.2.2.2.2.1) (S 2), filo 0 0 kk (b.2.2.2.2.2.2.2.1) (S 3), b.2.2.2.2.2.2.2.2.1, x1, x2, x3, J 11, J 12, J 13, b.1, b.2.1, b.2.2.1, b.2.2.2.1, b.2.2.2.2.1, b.2.2.2.2.2.1, b.2.2.2.2.2.2.1, b.2.2.2.2.2.2.2.1, b.2.2.2.2.2.2.2.2.1, b.2.2.2.2.2.2.2.2.2.1, b.2.2.2.2.2.2.2.2.2.2.1, b.2.2.2.2.2.2.2.2.2.2.2.1, b.2.2.2.2.2.2.2.2.2.2.2.2.1, b.2.2.2.2.2.2.2.2.2.2.2.2.2.1, b.2.2.2.2.2.2.2.2.2.2.2.2.2.2) := by
      unfold f_X8_load
      rw [j2, j3, f2, eb, bd_s, if_pos (show b.2.2.2.2.2.2.2.2.2.2.2.2.2.1 ≤ 0 by rw [hnow]; decide), p3, p4, z2, l_loadA (by omega) hz.2 hzz2 zz2 hN, l_loadB hdd dd2 hN, l_loadC hkk bb2 hN]
      exact eK _
    have w : Mch en (a.2.2.2.2.2.2.2.2.2.1) (a.2.2.2.2.2.2.2.2.2.2.2.1) (a.2.2.2.2.2.2.2.2.2.2.2.2.2.2.1) (brt g (g + h) z zz (a.2.2.2.2.2.2.2.2.1) (R 1)) (va_cpy (a.2.2.2.2.2.2.2.2.2.2.1) (R 2) 0 0 40) (va_cpy (a.2.2.2.2.2.2.2.2.2.2.2.2.1) (R 3) 0 0 8) (va_cpy (a.2.2.2.2.2.2.2.2.2.2.2.2.2.1) (R 4) 0 0 8) (b.2.1) (b.2.2.2.1) (b.2.2.2.2.2.1) (brt g (g + h) z zz (b.2.2.1) (S 0)) (filo 0 0 dd (b.2.2.2.2.1) (S 1)) (filo 0 0 kk (b.2.2.2.2.2.2.1) (S 2)) (filo 0 0 kk (b.2.2.2.2.2.2.2.1) (S 3)) := by
      refine ⟨zz, dd, kk, ss, ll, ⟨zz1, zz2⟩, ⟨dd1, dd2⟩, ⟨bb1, bb2⟩, ⟨hzz1, hzz2⟩, hdd, hkk, brt_ok hm hmm, ?_, ?_, hBB⟩
      · intro i hi
        rw [filo_0 (by omega), cpy_0 (by omega)]
        exact hsst i hi
      · intro i hi
        rw [filo_0 (by omega), filo_0 (by omega), cpy_0 (by omega), cpy_0 (by omega)]
        exact hbbl i hi
    have hQ : ROth (a.2.2.2.2.2.2.2.2.2.2.2.2.2.2.2.1) (va_cpy (a.2.2.2.2.2.2.2.2.2.2.2.2.2.2.2.2.1) (R 9) 0 0 4) (va_cpy (a.2.2.2.2.2.2.2.2.2.2.2.2.2.2.2.2.2.1) (R 10) 0 0 4) (va_cpy (a.2.2.2.2.2.2.2.2.2.2.2.2.2.2.2.2.2.2) (R 11) 0 0 240) (b.2.2.2.2.2.2.2.2.1) x1 x2 x3 := by
      refine ⟨o, ln, ho, ⟨oo1, oo2⟩, fun i hi => ?_⟩
      obtain ⟨q1, q2, q3, q4, q5⟩ := hoth i hi
      obtain ⟨y1, y2, y3⟩ := hx i hi
      rw [y1, y2, cpy_0 (by omega), cpy_0 (by omega)]
      refine ⟨q1, q2, q3, q4, fun j hj => ?_⟩
      rw [y3 j hj, cpy_0 (by omega)]
      exact q5 j hj
    exact ⟨_, _, _, _, _, _, _, _, _, _, _, _, _, _, _, _, _, _, _, _, _, _, _, _, _, _, _, _, _, _, _, _, _, _, _, _, _, _, _, _, _, _, _, _, _, _, _, _, _, _, _, _, _, _, _, _, _, _, _, _, _, _, v1, v2, ram, en, hS, w, hF, hQ, hB, hP, hL, hU⟩
