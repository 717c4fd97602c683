/-! ===== reading a chunk: up to its inside ===== -/
def cmv (hd me st bl ot : Nat) : Int32 := nI (hd + 2 * me + 4 * st + 8 * bl + 16 * ot)
theorem cm_c : ∀ c, c < 32 → ((nI c &&& 1 = 0) ↔ c % 2 = 0) ∧ ((nI c &&& 2 = 0) ↔ c / 2 % 2 = 0) ∧ ((nI c &&& 6 = 6) ↔ c / 2 % 4 = 3) ∧ (((nI c >>> (nI 0 &&& 31)) &&& 1 = 1) ↔ c % 2 = 1) ∧ (((nI c >>> (nI 1 &&& 31)) &&& 1 = 1) ↔ c / 2 % 2 = 1) ∧ (((nI c >>> (nI 2 &&& 31)) &&& 1 = 1) ↔ c / 4 % 2 = 1) ∧ (((nI c >>> (nI 3 &&& 31)) &&& 1 = 1) ↔ c / 8 % 2 = 1) := by
  decide +kernel
theorem cm_d : ∀ c, c < 32 → (nI c ||| ((1 : Int32) <<< (nI 0 &&& 31))) = nI (c - c % 2 + 1) ∧ (nI c ||| ((1 : Int32) <<< (nI 1 &&& 31))) = nI (c - 2 * (c / 2 % 2) + 2) ∧ (nI c ||| ((1 : Int32) <<< (nI 2 &&& 31))) = nI (c - 4 * (c / 4 % 2) + 4) ∧ (nI c ||| ((1 : Int32) <<< (nI 3 &&& 31))) = nI (c - 8 * (c / 8 % 2) + 8) ∧ (nI c ||| ((1 : Int32) <<< (nI 4 &&& 31))) = nI (c - 16 * (c / 16 % 2) + 16) := by
  decide +kernel
theorem cm_F : ∀ hd, hd < 2 → ∀ me, me < 2 → ∀ st, st < 2 → ∀ bl, bl < 2 → ∀ ot, ot < 2 → ((cmv hd me st bl ot &&& 1 = 0) ↔ hd = 0) ∧ ((cmv hd me st bl ot &&& 2 = 0) ↔ me = 0) ∧ ((cmv hd me st bl ot &&& 6 = 6) ↔ (me = 1 ∧ st = 1)) ∧ (((cmv hd me st bl ot >>> (nI 0 &&& 31)) &&& 1 = 1) ↔ hd = 1) ∧ (((cmv hd me st bl ot >>> (nI 1 &&& 31)) &&& 1 = 1) ↔ me = 1) ∧ (((cmv hd me st bl ot >>> (nI 2 &&& 31)) &&& 1 = 1) ↔ st = 1) ∧ (((cmv hd me st bl ot >>> (nI 3 &&& 31)) &&& 1 = 1) ↔ bl = 1) ∧ (cmv hd me st bl ot ||| ((1 : Int32) <<< (nI 0 &&& 31))) = cmv 1 me st bl ot ∧ (cmv hd me st bl ot ||| ((1 : Int32) <<< (nI 1 &&& 31))) = cmv hd 1 st bl ot ∧ (cmv hd me st bl ot ||| ((1 : Int32) <<< (nI 2 &&& 31))) = cmv hd me 1 bl ot ∧ (cmv hd me st bl ot ||| ((1 : Int32) <<< (nI 3 &&& 31))) = cmv hd me st 1 ot ∧ (cmv hd me st bl ot ||| ((1 : Int32) <<< (nI 4 &&& 31))) = cmv hd me st bl 1 := by
  intro hd h0 me h1 st h2 bl h3 ot h4
  unfold cmv
  have hc : hd + 2 * me + 4 * st + 8 * bl + 16 * ot < 32 := by omega
  obtain ⟨a1, a2, a3, a4, a5, a6, a7⟩ := cm_c _ hc
  obtain ⟨b1, b2, b3, b4, b5⟩ := cm_d _ hc
  rw [a1, a2, a3, a4, a5, a6, a7, b1, b2, b3, b4, b5]
  refine ⟨by omega, by omega, by omega, by omega, by omega, by omega, by omega, congrArg nI ?_, congrArg nI ?_, congrArg nI ?_, congrArg nI ?_, congrArg nI ?_⟩ <;> omega
def Nm (nm : Int32) (w : Nat) : Prop := (w = 0 ∧ nm = 1229351012) ∨ (w = 1 ∧ nm = 1129145709) ∨ (w = 2 ∧ nm = 1400138611) ∨ (w = 3 ∧ nm = 1296133228) ∨ (w = 4 ∧ nm ≠ 1229351012 ∧ nm ≠ 1129145709 ∧ nm ≠ 1400138611 ∧ nm ≠ 1296133228)
theorem Nm_ex (nm : Int32) : ∃ w, w < 5 ∧ Nm nm w := by
  unfold Nm
  by_cases h0 : nm = 1229351012
  · exact ⟨0, by omega, Or.inl ⟨rfl, h0⟩⟩
  by_cases h1 : nm = 1129145709
  · exact ⟨1, by omega, Or.inr (Or.inl ⟨rfl, h1⟩)⟩
  by_cases h2 : nm = 1400138611
  · exact ⟨2, by omega, Or.inr (Or.inr (Or.inl ⟨rfl, h2⟩))⟩
  by_cases h3 : nm = 1296133228
  · exact ⟨3, by omega, Or.inr (Or.inr (Or.inr (Or.inl ⟨rfl, h3⟩)))⟩
  exact ⟨4, by omega, Or.inr (Or.inr (Or.inr (Or.inr ⟨rfl, h0, h1, h2, h3⟩)))⟩
def Seen (w hd me st bl : Nat) : Prop := (w = 0 ∧ hd = 1) ∨ (w = 1 ∧ me = 1) ∨ (w = 2 ∧ st = 1) ∨ (w = 3 ∧ bl = 1)
def Lack (w hd me : Nat) : Prop := (1 ≤ w ∧ w ≤ 3 ∧ hd = 0) ∨ (w = 3 ∧ me = 0)
theorem gbo_n {α : Type} {h : Nat} {k : Option α} (hh : h < 2) : gbo (nI h) k = k := by
  match h, hh with
  | 0, _ => rfl
  | 1, _ => rfl
  | _ + 2, hh => exact absurd hh (by omega)
theorem v_mayCome {nm : Int32} {w hd me st bl at' : Nat} (hw : Nm nm w) (h0 : hd < 2) (h1 : me < 2) (h2 : st < 2) (h3 : bl < 2) (f p : Int32) : (Seen w hd me st bl → f_X3_mayCome nm (nI at') f p (nI hd) (nI me) (nI st) (nI bl) = some (0, 4, nI at')) ∧ (¬ Seen w hd me st bl → Lack w hd me → f_X3_mayCome nm (nI at') f p (nI hd) (nI me) (nI st) (nI bl) = some (0, 8, nI at')) ∧ (¬ Seen w hd me st bl → ¬ Lack w hd me → f_X3_mayCome nm (nI at') f p (nI hd) (nI me) (nI st) (nI bl) = some (1, f, p)) := by
  have q0 : nI hd = 0 ↔ hd = 0 := eq0_n (by omega)
  have q1 : nI me = 0 ↔ me = 0 := eq0_n (by omega)
  have q2 : nI st = 0 ↔ st = 0 := eq0_n (by omega)
  have q3 : nI bl = 0 ↔ bl = 0 := eq0_n (by omega)
  unfold f_X3_mayCome f_X3_wasSeen J_X3_mayCome_33 J_X3_mayCome_38 J_X3_mayCome_50 J_X3_mayCome_63
  rw [gbo_n h0, gbo_n h1, gbo_n h2, gbo_n h3]
  unfold Seen Lack
  rcases hw with ⟨rfl, rfl⟩ | ⟨rfl, rfl⟩ | ⟨rfl, rfl⟩ | ⟨rfl, rfl⟩ | ⟨rfl, n0, n1, n2, n3⟩
  · rw [if_neg (show ¬ (1229351012 : Int32) = 1129145709 by decide), if_pos rfl, bd_s]
    refine ⟨fun h => ?_, fun h l => ?_, fun h l => ?_⟩
    · rw [if_neg (by rw [q0]; omega)]; rfl
    · omega
    · rw [if_pos (by rw [q0]; omega)]; rfl
  · rw [if_pos rfl, bd_s]
    refine ⟨fun h => ?_, fun h l => ?_, fun h l => ?_⟩
    · rw [if_neg (by rw [q1]; omega)]; rfl
    · rw [if_pos (by rw [q1]; omega), if_pos rfl, if_neg (by decide), if_pos (by rw [q0]; omega)]; rfl
    · rw [if_pos (by rw [q1]; omega), if_pos rfl, if_neg (by decide), if_neg (by rw [q0]; omega)]; rfl
  · rw [if_neg (show ¬ (1400138611 : Int32) = 1129145709 by decide), if_neg (show ¬ (1400138611 : Int32) = 1229351012 by decide), if_neg (show ¬ (1400138611 : Int32) = 1296133228 by decide), if_pos rfl, bd_s]
    refine ⟨fun h => ?_, fun h l => ?_, fun h l => ?_⟩
    · rw [if_neg (by rw [q2]; omega)]; rfl
    · rw [if_pos (by rw [q2]; omega), if_neg (show ¬ (1400138611 : Int32) = 1129145709 by decide), if_pos rfl, if_neg (by decide), if_pos (by rw [q0]; omega)]; rfl
    · rw [if_pos (by rw [q2]; omega), if_neg (show ¬ (1400138611 : Int32) = 1129145709 by decide), if_pos rfl, if_neg (by decide), if_neg (by rw [q0]; omega)]; rfl
  · rw [if_neg (show ¬ (1296133228 : Int32) = 1129145709 by decide), if_neg (show ¬ (1296133228 : Int32) = 1229351012 by decide), if_pos rfl, bd_s]
    refine ⟨fun h => ?_, fun h l => ?_, fun h l => ?_⟩
    · rw [if_neg (by rw [q3]; omega)]; rfl
    · rw [if_pos (by rw [q3]; omega), if_neg (show ¬ (1296133228 : Int32) = 1129145709 by decide), if_neg (show ¬ (1296133228 : Int32) = 1400138611 by decide), if_pos rfl, if_neg (by decide)]
      by_cases hh : hd = 0
      · rw [if_pos (by rw [q0]; omega)]; rfl
      · rw [if_neg (by rw [q0]; omega), if_pos rfl, if_pos (by rw [q1]; omega)]; rfl
    · rw [if_pos (by rw [q3]; omega), if_neg (show ¬ (1296133228 : Int32) = 1129145709 by decide), if_neg (show ¬ (1296133228 : Int32) = 1400138611 by decide), if_pos rfl, if_neg (by decide), if_neg (by rw [q0]; omega), if_pos rfl, if_neg (by rw [q1]; omega)]
  · rw [if_neg n1, if_neg n0, if_neg n3, if_neg n2, bd_s, if_pos rfl, if_neg n1, if_neg n2, if_neg n3, if_pos rfl]
    refine ⟨fun h => ?_, fun h l => ?_, fun h l => ?_⟩
    · omega
    · omega
    · rw [if_neg n3]
section CHK
variable {N ram en n at' hd me st bl ot w : Nat} {seed nM nSL nB nO nm q : Int32} {fl nN nL nBy nSt nLe nSk nMe : Nat → Int32}
theorem m_139n {f : Int32} (hf : f ≠ 0) (x y : Int32) (v : Int32) : J_X8_readChunk_139 N seed (nI ram) (nI en) (nI n) (nI at') nM nSL nB nO (cmv hd me st bl ot) fl nN nL nBy nSt nLe nSk nMe nm v x f y = some (x, nM, nMe, nSL, nSk, nB, nSt, nLe, nO, nN, nL, nBy, cmv hd me st bl ot, f, y) := by
  unfold J_X8_readChunk_139
  rw [if_neg hf]
theorem m_97n {f : Int32} (hf : f ≠ 0) (x y : Int32) (v : Int32) : J_X8_readChunk_97 N seed (nI ram) (nI en) (nI n) (nI at') nM nSL nB nO (cmv hd me st bl ot) fl nN nL nBy nSt nLe nSk nMe nm v x f y = some (x, nM, nMe, nSL, nSk, nB, nSt, nLe, nO, nN, nL, nBy, cmv hd me st bl ot, f, y) := by
  unfold J_X8_readChunk_97 J_X8_readChunk_118 J_X8_readChunk_132
  simp only [in_n, bd_s, v_fail8n _ _ _ hf, m_139n hf, ite_self]
theorem m_63 (h0 : hd < 2) (h1 : me < 2) (h2 : st < 2) (h3 : bl < 2) (h4 : ot < 2) (hw : w < 5) : (Seen w hd me st bl → J_X8_readChunk_63 N seed (nI ram) (nI en) (nI n) (nI at') nM nSL nB nO (cmv hd me st bl ot) fl nN nL nBy nSt nLe nSk nMe (1, 0, q) nm (nI w) = some (nI (at' + 4), nM, nMe, nSL, nSk, nB, nSt, nLe, nO, nN, nL, nBy, cmv hd me st bl ot, 4, nI at')) ∧ (¬ Seen w hd me st bl → Lack w hd me → J_X8_readChunk_63 N seed (nI ram) (nI en) (nI n) (nI at') nM nSL nB nO (cmv hd me st bl ot) fl nN nL nBy nSt nLe nSk nMe (1, 0, q) nm (nI w) = some (nI (at' + 4), nM, nMe, nSL, nSk, nB, nSt, nLe, nO, nN, nL, nBy, cmv hd me st bl ot, 8, nI at')) ∧ (¬ Seen w hd me st bl → ¬ Lack w hd me → J_X8_readChunk_63 N seed (nI ram) (nI en) (nI n) (nI at') nM nSL nB nO (cmv hd me st bl ot) fl nN nL nBy nSt nLe nSk nMe (1, 0, q) nm (nI w) = J_X8_readChunk_139 N seed (nI ram) (nI en) (nI n) (nI at') nM nSL nB nO (cmv hd me st bl ot) fl nN nL nBy nSt nLe nSk nMe nm (nI w) (nI (at' + 4)) 0 q) := by
  obtain ⟨c1, c2, c6, s0, s1, s2, s3, _⟩ := cm_F hd h0 me h1 st h2 bl h3 ot h4
  have e97 : ∀ (hw3 : w ≤ 3) (hl : Lack w hd me), J_X8_readChunk_97 N seed (nI ram) (nI en) (nI n) (nI at') nM nSL nB nO (cmv hd me st bl ot) fl nN nL nBy nSt nLe nSk nMe nm (nI w) (nI (at' + 4)) 0 q = some (nI (at' + 4), nM, nMe, nSL, nSk, nB, nSt, nLe, nO, nN, nL, nBy, cmv hd me st bl ot, 8, nI at') := by
    intro hw3 hl
    unfold Lack at hl
    unfold J_X8_readChunk_97 J_X8_readChunk_118 J_X8_readChunk_132
    simp only [in_n, bd_s, v_fail8, bI_0, c1, c2, nI_toInt (show w < 2 ^ 31 by omega), show (1 : Int64).toInt = 1 from rfl, show (3 : Int64).toInt = 3 from rfl, m_139n (show (8 : Int32) ≠ 0 by decide)]
    rw [if_neg (by omega)]
    by_cases hh : hd = 0
    · rw [if_pos hh]
    · rw [if_neg hh, if_pos (by have : w = 3 := by omega
                                rw [this]; rfl), if_pos (by omega)]
  have e97b : ∀ (hl : ¬ Lack w hd me), J_X8_readChunk_97 N seed (nI ram) (nI en) (nI n) (nI at') nM nSL nB nO (cmv hd me st bl ot) fl nN nL nBy nSt nLe nSk nMe nm (nI w) (nI (at' + 4)) 0 q = J_X8_readChunk_139 N seed (nI ram) (nI en) (nI n) (nI at') nM nSL nB nO (cmv hd me st bl ot) fl nN nL nBy nSt nLe nSk nMe nm (nI w) (nI (at' + 4)) 0 q := by
    intro hl
    unfold Lack at hl
    have e118 : J_X8_readChunk_118 N seed (nI ram) (nI en) (nI n) (nI at') nM nSL nB nO (cmv hd me st bl ot) fl nN nL nBy nSt nLe nSk nMe nm (nI w) (nI (at' + 4)) 0 q = J_X8_readChunk_139 N seed (nI ram) (nI en) (nI n) (nI at') nM nSL nB nO (cmv hd me st bl ot) fl nN nL nBy nSt nLe nSk nMe nm (nI w) (nI (at' + 4)) 0 q := by
      unfold J_X8_readChunk_118
      simp (disch := omega) only [show (3 : Int32) = nI 3 from rfl, nI_eq, c2]
      by_cases h : w = 3
      · rw [if_pos h, if_neg (by omega)]
      · rw [if_neg h]
    unfold J_X8_readChunk_97
    rw [e118]
    simp only [in_n, bd_s, bI_0, c1, nI_toInt (show w < 2 ^ 31 by omega), show (1 : Int64).toInt = 1 from rfl, show (3 : Int64).toInt = 3 from rfl]
    by_cases h : (1 : Int) ≤ w ∧ (w : Int) ≤ 3
    · rw [if_neg (not_not_intro h), if_neg (by omega)]
    · rw [if_pos h]
  have e4 : nI at' + (4 : Int32) = nI (at' + 4) := nI_add at' 4
  have eS : ∀ (hw3 : w ≤ 3), (((cmv hd me st bl ot >>> (nI w &&& 31)) &&& 1 = 1) ↔ Seen w hd me st bl) := by
    intro hw3
    unfold Seen
    match w, hw3 with
    | 0, _ => rw [s0]; omega
    | 1, _ => rw [s1]; omega
    | 2, _ => rw [s2]; omega
    | 3, _ => rw [s3]; omega
    | _ + 4, hw3 => exact absurd hw3 (by omega)
  unfold J_X8_readChunk_63
  rw [e4, bn_s, v_fail8, bd_s]
  simp only [m_97n (show (4 : Int32) ≠ 0 by decide)]
  by_cases hw4 : w = 4
  · subst hw4
    rw [if_pos (by decide)]
    refine ⟨fun h => ?_, fun h l => ?_, fun h l => e97b l⟩
    · unfold Seen at h; omega
    · unfold Lack at l; omega
  · rw [if_neg (by rw [show (4 : Int32) = nI 4 from rfl, nI_leI (by omega) (by omega)]; omega)]
    have hw3 : w ≤ 3 := by omega
    refine ⟨fun h => ?_, fun h l => ?_, fun h l => ?_⟩
    · rw [if_pos ((eS hw3).mpr h)]
    · rw [if_neg (fun c => h ((eS hw3).mp c))]; exact e97 hw3 l
    · rw [if_neg (fun c => h ((eS hw3).mp c))]; exact e97b l
end CHK
