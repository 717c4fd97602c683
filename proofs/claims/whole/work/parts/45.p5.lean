/-! ===== the calls on the file; counting ===== -/
def by4 (v : Int32) : Nat → Int32
  | 0 => (v >>> ((24 : Int32) &&& 31)) &&& 255
  | 1 => (v >>> ((16 : Int32) &&& 31)) &&& 255
  | 2 => (v >>> ((8 : Int32) &&& 31)) &&& 255
  | _ => v &&& 255
theorem Byt_by4 (v : Int32) : ∀ k, Byt (by4 v k)
  | 0 => Byt_and _
  | 1 => Byt_and _
  | 2 => Byt_and _
  | _ + 3 => Byt_and _
theorem ush_k (v : Int32) : ∀ k, k < 4 → i_ushr v ((24 : Int32) - (8 : Int32) * nI k) &&& (255 : Int32) = by4 v k
  | 0, _ => ush_24 v
  | 1, _ => ush_16 v
  | 2, _ => ush_8 v
  | 3, _ => ush_00 v
  | _ + 4, h => absurd h (by omega)
theorem shr_k (v : Int32) : ∀ k, k < 4 → (v >>> (((24 : Int32) - (8 : Int32) * nI k) &&& 31)) &&& (255 : Int32) = by4 v k
  | 0, _ => rfl
  | 1, _ => rfl
  | 2, _ => rfl
  | 3, _ => by
    show (v >>> ((0 : Int32) &&& 31)) &&& (255 : Int32) = v &&& 255
    rw [shr_0]
  | _ + 4, h => absurd h (by omega)
/-- four bytes laid at a place -/
def put4 (b : Nat → Int32) (p : Nat) (v : Int32) : Nat → Int32 := upd (upd (upd (upd b p (by4 v 0)) (p + 1) (by4 v 1)) (p + 2) (by4 v 2)) (p + 3) (by4 v 3)
theorem put4_in (b : Nat → Int32) (p : Nat) (v : Int32) {k : Nat} (h : k < 4) : put4 b p v (p + k) = by4 v k := by
  unfold put4
  match k, h with
  | 0, _ => rw [upd_n (by omega), upd_n (by omega), upd_n (by omega)]; exact upd_s ..
  | 1, _ => rw [upd_n (by omega), upd_n (by omega), upd_s]
  | 2, _ => rw [upd_n (by omega), upd_s]
  | 3, _ => rw [upd_s]
  | _ + 4, h => exact absurd h (by omega)
theorem put4_out {b : Nat → Int32} {p : Nat} {v : Int32} {j : Nat} (h : j < p ∨ p + 4 ≤ j) : put4 b p v j = b j := by
  unfold put4
  rw [upd_n (by omega), upd_n (by omega), upd_n (by omega), upd_n (by omega)]
theorem st_setFour {p : Nat} {v : Int32} {K : (Nat → Int32) → Int32 → Option (Nat → Int32)} {n : Nat} {z : Nat → Int32} {k : Nat} (hk : k < 4) (hp : p + k < 1200) : L_X0_setFour_2 (nI p) v K (n + 1) z (nI k) = L_X0_setFour_2 (nI p) v K n (upd z (p + k) (by4 v k)) (nI (k + 1)) := by
  show B_X0_setFour_2 _ _ _ _ _ _ = _
  unfold B_X0_setFour_2
  rw [ush_k v k hk]
  simp (disch := omega) only [show (4 : Int32) = nI 4 from rfl, nI_leI, nI_add, nI_inc, v_setByte, bd_s, bn_s]
  rw [if_neg (by omega)]
theorem v_setFour {N : Nat} (hN : 5000 ≤ N) {p : Nat} (hp : p + 4 ≤ 1200) (v : Int32) (b : Nat → Int32) : f_X0_setFour N (nI p) v b = some (put4 b p v) := by
  obtain ⟨n, rfl⟩ : ∃ n, N = n + 5 := ⟨N - 5, by omega⟩
  unfold f_X0_setFour
  rw [show (0 : Int32) = nI 0 from rfl, st_setFour (by omega) (by omega), st_setFour (by omega) (by omega), st_setFour (by omega) (by omega), st_setFour (by omega) (by omega)]
  show B_X0_setFour_2 _ _ _ _ _ _ = _
  unfold B_X0_setFour_2
  rw [if_pos (by decide)]
  rfl
theorem sp_setByte (i v : Int32) (b : Nat → Int32) : ∃ b', f_X0_setByte i v b = some b' := by
  unfold f_X0_setByte
  by_cases h : i < 0
  · rw [if_pos h]; exact ⟨_, rfl⟩
  · rw [if_neg h]
    by_cases h2 : (1200 : Int32) ≤ i
    · rw [if_pos h2]; exact ⟨_, rfl⟩
    · rw [if_neg h2]
      rw [ltI, show (0 : Int32).toInt = 0 from rfl] at h
      rw [leI, show (1200 : Int32).toInt = 1200 from rfl] at h2
      rw [gin_s (by omega)]; exact ⟨_, rfl⟩
/-- whatever the place is, it ends -/
theorem sp_setFour {N : Nat} (hN : 5000 ≤ N) (i v : Int32) (b : Nat → Int32) : ∃ b', f_X0_setFour N i v b = some b' := by
  obtain ⟨n, rfl⟩ : ∃ n, N = n + 5 := ⟨N - 5, by omega⟩
  have st : ∀ (K : (Nat → Int32) → Int32 → Option (Nat → Int32)) (m : Nat) (z : Nat → Int32) (k : Nat), k < 4 → ∃ z', L_X0_setFour_2 i v K (m + 1) z (nI k) = L_X0_setFour_2 i v K m z' (nI (k + 1)) := by
    intro K m z k hk
    obtain ⟨z', hz⟩ := sp_setByte (i + nI k) ((i_ushr v ((24 : Int32) - ((8 : Int32) * nI k))) &&& (255 : Int32)) z
    refine ⟨z', ?_⟩
    show B_X0_setFour_2 _ _ _ _ _ _ = _
    unfold B_X0_setFour_2
    rw [hz]
    simp (disch := omega) only [show (4 : Int32) = nI 4 from rfl, nI_leI, nI_inc, bd_s, bn_s]
    rw [if_neg (by omega)]
  unfold f_X0_setFour
  obtain ⟨z1, e1⟩ := st (fun z1 z2 => some z1) (n + 4) b 0 (by omega)
  obtain ⟨z2, e2⟩ := st (fun z1 z2 => some z1) (n + 3) z1 1 (by omega)
  obtain ⟨z3, e3⟩ := st (fun z1 z2 => some z1) (n + 2) z2 2 (by omega)
  obtain ⟨z4, e4⟩ := st (fun z1 z2 => some z1) (n + 1) z3 3 (by omega)
  refine ⟨z4, ?_⟩
  rw [show (0 : Int32) = nI 0 from rfl, e1, e2, e3, e4]
  show B_X0_setFour_2 _ _ _ _ _ _ = _
  unfold B_X0_setFour_2
  rw [if_pos (by decide)]
theorem ok_at (N : Nat) : pm_at Rel N := by
  intro I R J S i1 ⟨ram, en, hS, hM, hF, hO, hB, hP, hL, hU⟩
  have hM' : Rel I R (va_up J 0 0) S := ⟨ram, en, hS, hM, hF, hO, hB, hP, hL, hU⟩
  obtain ⟨n, hn, ⟨e1, e2⟩, hb⟩ := id hB
  have : rel2 (f_X7_at i1 (I 13) (R 12)) (f_X8_at i1 (J 9) (S 4)) (fun a b => a = b.1 ∧ Rel I R (va_up J 0 b.2) S) := by
    unfold f_X7_at f_X8_at
    rw [e1, e2, v_holds1 i1 hn]
    simp only [in_n, bd_s, bI_0, tiL, show (0 : Int64).toInt = 0 from rfl, nI_m1 (show n < 2 ^ 31 by omega)]
    by_cases h : (0 : Nat) ≤ i1.toInt ∧ i1.toInt < n
    · rw [if_neg (by omega), if_neg (by omega)]
      obtain ⟨i, hi1, hi2, hi3, rfl⟩ := low_hi h
      simp (disch := omega) only [gin_n, nI_clamp, v_byteAt, bd_s]
      exact rel2_s ⟨(hb i hi2).1.symm, hM'⟩
    · rw [if_pos (by omega), if_pos (by omega)]
      exact rel2_s ⟨rfl, hM'⟩
  obtain ⟨r, ⟨r', q0⟩, h1, h2, rfl, h4⟩ := this
  exact ⟨_, _, h1, h2, h4⟩
theorem ok_alter (N : Nat) : pm_alter Rel N := by
  intro I R J S i1 i2 ⟨ram, en, hS, hM, hF, hO, hB, hP, hL, hU⟩
  have hM' : Rel I (va_up R 12 (R 12)) (va_up J 0 0) (va_up S 4 (S 4)) := ⟨ram, en, hS, hM, hF, hO, hB, hP, hL, hU⟩
  obtain ⟨n, hn, ⟨e1, e2⟩, hb⟩ := id hB
  have : rel2 (f_X7_alter i1 i2 (I 13) (R 12)) (f_X8_alter i1 i2 (J 9) (S 4)) (fun a b => a.1 = b.1 ∧ Rel I (va_up R 12 a.2) (va_up J 0 b.2.1) (va_up S 4 b.2.2)) := by
    unfold f_X7_alter f_X8_alter
    rw [e1, e2, v_holds1 i1 hn]
    simp only [in_n, bd_s, bn_s, bI_0, tiL, v_isByte, show (0 : Int64).toInt = 0 from rfl, show (255 : Int64).toInt = 255 from rfl, nI_m1 (show n < 2 ^ 31 by omega)]
    by_cases h : (0 : Nat) ≤ i1.toInt ∧ i1.toInt < n
    · rw [if_neg (show ¬ ¬ (0 ≤ i1.toInt ∧ i1.toInt < n) by omega), if_neg (show ¬ ¬ (0 ≤ i1.toInt ∧ i1.toInt ≤ (n : Int) - 1) by omega)]
      by_cases h2 : 0 ≤ i2.toInt ∧ i2.toInt ≤ 255
      · rw [if_neg (by omega), if_neg (by omega)]
        obtain ⟨i, hi1, hi2, hi3, rfl⟩ := low_hi h
        simp (disch := omega) only [gin_n, nI_clamp, v_byteAt, v_setByte, bd_s, upd_s]
        refine rel2_s ⟨by rw [(hb i hi2).1], ram, en, hS, hM, hF, hO, ⟨n, hn, ⟨e1, e2⟩, ?_⟩, hP, hL, hU⟩
        intro j hj
        show upd (S 4) i (S 4 i ^^^ i2) j = upd (R 12) i (R 12 i ^^^ i2) j ∧ Byt (upd (R 12) i (R 12 i ^^^ i2) j)
        by_cases hin : j = i
        · rw [hin, upd_s, upd_s, (hb i hi2).1]
          exact ⟨rfl, Byt_xor (hb i hi2).2 (Byt_r h2.1 h2.2)⟩
        · rw [upd_n hin, upd_n hin]
          exact hb j hj
      · rw [if_pos (by omega), if_pos (by omega)]
        exact rel2_s ⟨rfl, hM'⟩
    · rw [if_pos (by omega), if_pos (by omega)]
      exact rel2_s ⟨rfl, hM'⟩
  obtain ⟨⟨r, o0⟩, ⟨r', q0, q1⟩, h1, h2, rfl, h4⟩ := this
  exact ⟨_, _, _, _, h1, h2, h4⟩
theorem ok_cut (N : Nat) : pm_cut Rel N := by
  intro I R J S i1 ⟨ram, en, hS, hM, hF, hO, hB, hP, hL, hU⟩
  have hM' : Rel (va_up I 13 (I 13)) R (va_up (va_up J 0 0) 9 (J 9)) S := ⟨ram, en, hS, hM, hF, hO, hB, hP, hL, hU⟩
  obtain ⟨n, hn, ⟨e1, e2⟩, hb⟩ := id hB
  have : rel2 (f_X7_cut i1 (I 13)) (f_X8_cut i1 (J 9)) (fun a b => a.1 = b.1 ∧ Rel (va_up I 13 a.2) R (va_up (va_up J 0 b.2.1) 9 b.2.2) S) := by
    unfold f_X7_cut f_X8_cut
    simp only [in_n, bd_s, bn_s, bI_0, tiL, ltI, leI, show (0 : Int64).toInt = 0 from rfl, show (0 : Int32).toInt = 0 from rfl]
    have hn1 : (nI n).toInt = n := nI_toInt (by omega)
    have f1 : (I 13).toInt = n := by rw [e1, hn1]
    have f2 : (J 9).toInt = n := by rw [e2, hn1]
    by_cases h : (0 : Nat) ≤ i1.toInt ∧ i1.toInt < (n + 1 : Nat)
    · rw [if_neg (show ¬ i1.toInt < 0 by omega), if_pos (show i1.toInt ≤ (I 13).toInt by omega), if_neg (by omega)]
      obtain ⟨i, hi1, hi2, hi3, rfl⟩ := low_hi h
      exact rel2_s ⟨by rw [e1, e2], ram, en, hS, hM, hF, hO, ⟨i, by omega, ⟨rfl, rfl⟩, fun j hj => hb j (by omega)⟩, hP, hL, hU⟩
    · rw [if_pos (show ¬ (0 ≤ i1.toInt ∧ i1.toInt ≤ (J 9).toInt) by omega)]
      by_cases h2 : i1.toInt < 0
      · rw [if_pos h2]
        exact rel2_s ⟨rfl, hM'⟩
      · rw [if_neg h2, if_neg (by omega)]
        exact rel2_s ⟨rfl, hM'⟩
  obtain ⟨⟨r, o0⟩, ⟨r', q0, q1⟩, h1, h2, rfl, h4⟩ := this
  exact ⟨_, _, _, _, h1, h2, h4⟩
theorem st_seal {v : Int32} {K : (Nat → Int32) → Int32 → Option (Int32 × Int32 × (Nat → Int32))} {n : Nat} {z : Nat → Int32} {k : Nat} (hk : k < 4) : L_X8_seal_27 v K (n + 1) z (nI k) = L_X8_seal_27 v K n (upd z (4 + k) (by4 v k)) (nI (k + 1)) := by
  show B_X8_seal_27 _ _ _ _ _ = _
  unfold B_X8_seal_27
  rw [shr_k v k hk]
  simp (disch := omega) only [show (4 : Int32) = nI 4 from rfl, nI_leI, nI_add, nI_inc, gin_n, nI_clamp, bd_s, bn_s]
  rw [if_neg (by omega)]
theorem ok_seal {N : Nat} (hN : 5000 ≤ N) : pm_seal Rel N := by
  intro I R J S ⟨ram, en, hS, hM, hF, hO, hB, hP, hL, hU⟩
  have hM' : Rel I (va_up R 12 (R 12)) (va_up J 0 0) (va_up S 4 (S 4)) := ⟨ram, en, hS, hM, hF, hO, hB, hP, hL, hU⟩
  obtain ⟨n, hn, ⟨e1, e2⟩, hb⟩ := id hB
  have : rel2 (f_X7_seal N (I 13) (R 12)) (f_X8_seal N (J 9) (S 4)) (fun a b => a.1 = b.1 ∧ Rel I (va_up R 12 a.2) (va_up J 0 b.2.1) (va_up S 4 b.2.2)) := by
    unfold f_X7_seal f_X8_seal
    rw [e1, e2]
    simp (disch := omega) only [show (8 : Int32) = nI 8 from rfl, nI_leI]
    by_cases h : 8 ≤ n
    · rw [if_pos h, if_pos h]
      simp (disch := omega) only [nI_sub, bn_s, show (4 : Int32) = nI 4 from rfl, v_setFour, bd_s]
      obtain ⟨m, rfl⟩ : ∃ m, N = m + 5 := ⟨N - 5, by omega⟩
      rw [show (0 : Int32) = nI 0 from rfl, st_seal (by omega), st_seal (by omega), st_seal (by omega), st_seal (by omega)]
      have e : ∀ (K : (Nat → Int32) → Int32 → Option (Int32 × Int32 × (Nat → Int32))) (z : Nat → Int32) (v : Int32), L_X8_seal_27 v K (m + 1) z (nI (0 + 1 + 1 + 1 + 1)) = K z (nI 4) := by
        intro K z v
        show B_X8_seal_27 _ _ _ _ _ = _
        unfold B_X8_seal_27
        rw [if_pos (by decide)]
      rw [e]
      refine rel2_s ⟨rfl, ram, en, hS, hM, hF, hO, ⟨n, hn, ⟨e1, e2⟩, ?_⟩, hP, hL, hU⟩
      intro j hj
      show put4 (S 4) 4 _ j = put4 (R 12) 4 _ j ∧ Byt (put4 (R 12) 4 _ j)
      by_cases hin : 4 ≤ j ∧ j < 8
      · obtain ⟨k, rfl⟩ : ∃ k, j = 4 + k := ⟨j - 4, by omega⟩
        rw [put4_in _ _ _ (by omega), put4_in _ _ _ (by omega)]
        exact ⟨rfl, Byt_by4 ..⟩
      · rw [put4_out (by omega), put4_out (by omega)]
        exact hb j hj
    · rw [if_neg h, if_neg h]
      exact rel2_s ⟨rfl, hM'⟩
  obtain ⟨⟨r, o0⟩, ⟨r', q0, q1⟩, h1, h2, rfl, h4⟩ := this
  exact ⟨_, _, _, _, h1, h2, h4⟩
