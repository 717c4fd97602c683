/-! ===== reading a chunk: its length ===== -/
def Ok5 (w : Nat) (x : Int32) : Prop := 0 ≤ x.toInt ∧ (w = 0 → x = 16) ∧ (w = 1 → 4 ≤ x.toInt) ∧ (w = 2 → i_rem x 4 = 0 ∧ x.toInt ≤ 160) ∧ (w = 3 → 12 ≤ x.toInt ∧ x.toInt ≤ 68 ∧ i_rem x 8 = 4)
def Big (w o : Nat) (x : Int32) : Prop := w = 4 ∧ (o = 4 ∨ 60 < x.toInt)
theorem v_lenRight {nm : Int32} {w : Nat} (hw : Nm nm w) (x : Int32) : (Ok5 w x → f_X3_lengthIsRight nm x = some 1) ∧ (¬ Ok5 w x → f_X3_lengthIsRight nm x = some 0) := by
  unfold f_X3_lengthIsRight Ok5
  simp only [ltI, bn_s, show (4 : Int32).toInt = 4 from rfl, show (12 : Int32).toInt = 12 from rfl, show (68 : Int32).toInt = 68 from rfl, show (160 : Int32).toInt = 160 from rfl, show (0 : Int32).toInt = 0 from rfl]
  rcases hw with ⟨rfl, rfl⟩ | ⟨rfl, rfl⟩ | ⟨rfl, rfl⟩ | ⟨rfl, rfl⟩ | ⟨rfl, n0, n1, n2, n3⟩
  · rw [if_neg (show ¬ (1229351012 : Int32) = 1129145709 by decide), if_pos rfl]
    constructor
    · intro h
      rw [if_pos (h.2.1 rfl)]
    · intro h
      rw [if_neg (fun c => h ⟨by rw [c]; decide, fun _ => c, fun c => absurd c (by omega), fun c => absurd c (by omega), fun c => absurd c (by omega)⟩)]
  · rw [if_pos rfl]
    constructor
    · intro h
      have := h.2.2.1 rfl
      rw [if_neg (by omega)]
    · intro h
      rw [if_pos (Classical.byContradiction (fun c => h ⟨by omega, fun c => absurd c (by omega), fun _ => by omega, fun c => absurd c (by omega), fun c => absurd c (by omega)⟩))]
  · rw [if_neg (show ¬ (1400138611 : Int32) = 1129145709 by decide), if_neg (show ¬ (1400138611 : Int32) = 1229351012 by decide), if_neg (show ¬ (1400138611 : Int32) = 1296133228 by decide), if_pos rfl]
    constructor
    · intro h
      have := h.2.2.2.1 rfl
      rw [if_neg (by omega), if_neg (by omega), if_pos this.1]
    · intro h
      by_cases h1 : x.toInt < 0
      · rw [if_pos h1]
      · rw [if_neg h1]
        by_cases h2 : 160 < x.toInt
        · rw [if_pos h2]
        · rw [if_neg h2, if_neg (fun c => h ⟨by omega, fun c => absurd c (by omega), fun c => absurd c (by omega), fun _ => ⟨c, by omega⟩, fun c => absurd c (by omega)⟩)]
  · rw [if_neg (show ¬ (1296133228 : Int32) = 1129145709 by decide), if_neg (show ¬ (1296133228 : Int32) = 1229351012 by decide), if_pos rfl]
    constructor
    · intro h
      have := h.2.2.2.2 rfl
      rw [if_neg (by omega), if_neg (by omega), if_pos this.2.2]
    · intro h
      by_cases h1 : x.toInt < 12
      · rw [if_pos h1]
      · rw [if_neg h1]
        by_cases h2 : 68 < x.toInt
        · rw [if_pos h2]
        · rw [if_neg h2, if_neg (fun c => h ⟨by omega, fun c => absurd c (by omega), fun c => absurd c (by omega), fun c => absurd c (by omega), fun _ => ⟨by omega, by omega, c⟩⟩)]
  · rw [if_neg n1, if_neg n0, if_neg n3, if_neg n2]
    constructor
    · intro h
      rw [if_neg (by omega)]
    · intro h
      rw [if_pos (Classical.byContradiction (fun c => h ⟨by omega, fun c => absurd c (by omega), fun c => absurd c (by omega), fun c => absurd c (by omega), fun c => absurd c (by omega)⟩))]
theorem v_known {nm : Int32} {w : Nat} (hw : Nm nm w) : (w = 4 → f_X3_isKnown nm = some 0) ∧ (w ≠ 4 → f_X3_isKnown nm = some 1) := by
  unfold f_X3_isKnown
  rcases hw with ⟨rfl, rfl⟩ | ⟨rfl, rfl⟩ | ⟨rfl, rfl⟩ | ⟨rfl, rfl⟩ | ⟨rfl, n0, n1, n2, n3⟩
  · exact ⟨fun h => absurd h (by omega), fun _ => rfl⟩
  · exact ⟨fun h => absurd h (by omega), fun _ => rfl⟩
  · exact ⟨fun h => absurd h (by omega), fun _ => rfl⟩
  · exact ⟨fun h => absurd h (by omega), fun _ => rfl⟩
  · refine ⟨fun _ => ?_, fun h => absurd rfl h⟩
    rw [if_neg n0, if_neg n1, if_neg n2, if_neg n3]
theorem v_lenMay {nm : Int32} {w o at' : Nat} (hw : Nm nm w) (ho : o ≤ 4) (x f p : Int32) : (¬ Ok5 w x → f_X3_lengthMayBe nm x (nI at') f p (nI o) = some (0, 5, nI (at' + 4))) ∧ (Ok5 w x → Big w o x → f_X3_lengthMayBe nm x (nI at') f p (nI o) = some (0, 9, nI at')) ∧ (Ok5 w x → ¬ Big w o x → f_X3_lengthMayBe nm x (nI at') f p (nI o) = some (1, f, p)) := by
  unfold f_X3_lengthMayBe J_X3_lengthMayBe_41
  obtain ⟨r1, r2⟩ := v_lenRight hw x
  obtain ⟨k1, k2⟩ := v_known hw
  refine ⟨fun h => ?_, fun h hb => ?_, fun h hb => ?_⟩
  · rw [r2 h, bd_s, if_pos rfl, show nI at' + (4 : Int32) = nI (at' + 4) from nI_add at' 4]
    rfl
  · rw [r1 h, bd_s, if_neg (show ¬ (1 : Int32) = 0 by decide), k1 hb.1, bd_s, if_pos rfl]
    by_cases h4 : o = 4
    · rw [if_pos (by rw [h4]; decide)]
      rfl
    · have h5 := hb.2
      rw [if_neg (by rw [show (4 : Int32) = nI 4 from rfl, nI_leI (by omega) (by omega)]; omega), if_neg (by rw [leI, show (60 : Int32).toInt = 60 from rfl]; omega)]
      rfl
  · rw [r1 h, bd_s, if_neg (show ¬ (1 : Int32) = 0 by decide)]
    unfold Big at hb
    by_cases h4 : w = 4
    · rw [k1 h4, bd_s, if_pos rfl, if_neg (by rw [show (4 : Int32) = nI 4 from rfl, nI_leI (by omega) (by omega)]; omega), if_pos (by rw [leI, show (60 : Int32).toInt = 60 from rfl]; omega)]
    · rw [k2 h4, bd_s, if_neg (show ¬ (1 : Int32) = 0 by decide)]
theorem v_whole {at' L n : Nat} (ha : at' ≤ 1200) (hL : L < 2 ^ 31) (hn : n ≤ 1200) (f p : Int32) (b : Nat → Int32) : (¬ at' + 8 + L + L % 2 ≤ n → f_X3_isWhole (nI at') (nI L) (nI n) f p b = some (0, 1, nI n)) ∧ (at' + 8 + L + L % 2 ≤ n → L % 2 = 1 ∧ b (at' + 8 + L) ≠ 0 → f_X3_isWhole (nI at') (nI L) (nI n) f p b = some (0, 2, nI (at' + 8 + L))) ∧ (at' + 8 + L + L % 2 ≤ n → ¬ (L % 2 = 1 ∧ b (at' + 8 + L) ≠ 0) → f_X3_isWhole (nI at') (nI L) (nI n) f p b = some (1, f, p)) := by
  have eL : (nI L).toInt64.toInt = (L : Int) := by rw [tiL, nI_toInt hL]
  have eL1 : ((nI L).toInt64 + (1 : Int64)).toInt = ((L + 1 : Nat) : Int) := by
    rw [Int64.toInt_add, eL, show (1 : Int64).toInt = 1 from rfl]
    have : ((L + 1 : Nat) : Int) = L + 1 := rfl
    rw [this]
    exact Int.bmod_eq_of_le (by omega) (by omega)
  unfold f_X3_isWhole J_X3_isWhole_17 J_X3_isWhole_37
  rw [show nI at' + (8 : Int32) = nI (at' + 8) from nI_add at' 8, bn_s, show (1 : Int32) = nI 1 from rfl, nI_and, Nat.and_one_is_mod]
  by_cases h2 : L % 2 = 0
  · rw [if_pos (by rw [h2]; rfl), if_pos rfl, v_reachesN (k := L) (by omega) eL (by omega) hn]
    refine ⟨fun h => ?_, fun h hh => absurd hh.1 (by omega), fun h hh => ?_⟩
    · rw [if_neg (by omega), bd_s]; rfl
    · rw [if_pos (by omega), bd_s, if_neg (show ¬ (1 : Int32) = 0 by decide), if_pos rfl]
  · have h3 : L % 2 = 1 := by omega
    rw [if_neg (by rw [h3]; decide), if_neg (by decide), v_reachesN (k := L + 1) (by omega) eL1 (by omega) hn]
    refine ⟨fun h => ?_, fun h hh => ?_, fun h hh => ?_⟩
    · rw [if_neg (by omega), bd_s]; rfl
    · rw [if_pos (by omega), bd_s, if_neg (show ¬ (1 : Int32) = 0 by decide), if_neg (by decide), nI_add, v_byteAt (by omega), bd_s, if_neg hh.2]; rfl
    · rw [if_pos (by omega), bd_s, if_neg (show ¬ (1 : Int32) = 0 by decide), if_neg (by decide), nI_add, v_byteAt (by omega), bd_s, if_pos (Classical.byContradiction (fun c => hh ⟨h3, c⟩))]
section CHK2
variable {N ram en n at' hd me st bl ot w o : Nat} {seed nM nSL nB nO nm q : Int32} {fl nN nL nBy nSt nLe nSk nMe : Nat → Int32}
theorem m_323n {f : Int32} (hf : f ≠ 0) (u x y v : Int32) : J_X8_readChunk_323 N seed (nI ram) (nI en) (nI n) nM nSL nB nO (cmv hd me st bl ot) fl nN nL nBy nSt nLe nSk nMe nm v u x f y = some (x, nM, nMe, nSL, nSk, nB, nSt, nLe, nO, nN, nL, nBy, cmv hd me st bl ot, f, y) := by
  unfold J_X8_readChunk_323
  rw [if_neg hf]
theorem m_296n {f : Int32} (hf : f ≠ 0) (u x y v : Int32) : J_X8_readChunk_296 N seed (nI ram) (nI en) (nI n) (nI at') nM nSL nB nO (cmv hd me st bl ot) fl nN nL nBy nSt nLe nSk nMe nm v u x f y = some (x, nM, nMe, nSL, nSk, nB, nSt, nLe, nO, nN, nL, nBy, cmv hd me st bl ot, f, y) := by
  unfold J_X8_readChunk_296 J_X8_readChunk_316
  simp only [bd_s, v_fail8n _ _ _ hf, m_323n hf, ite_self]
theorem m_288 (u x v : Int32) : J_X8_readChunk_288 N seed (nI ram) (nI en) (nI n) (nI at') nM nSL nB nO (cmv hd me st bl ot) fl nN nL nBy nSt nLe nSk nMe nm v (1, 0, q) u x = some (x, nM, nMe, nSL, nSk, nB, nSt, nLe, nO, nN, nL, nBy, cmv hd me st bl ot, 5, nI (at' + 4)) := by
  unfold J_X8_readChunk_288
  rw [v_fail8, bd_s]
  dsimp only
  rw [m_296n (by decide), show nI at' + (4 : Int32) = nI (at' + 4) from nI_add at' 4]
theorem m_296 (hw : w < 5) (ho : o ≤ 4) (u x : Int32) : (Big w o u → J_X8_readChunk_296 N seed (nI ram) (nI en) (nI n) (nI at') nM nSL nB (nI o) (cmv hd me st bl ot) fl nN nL nBy nSt nLe nSk nMe nm (nI w) u x 0 q = some (x, nM, nMe, nSL, nSk, nB, nSt, nLe, nI o, nN, nL, nBy, cmv hd me st bl ot, 9, nI at')) ∧ (¬ Big w o u → J_X8_readChunk_296 N seed (nI ram) (nI en) (nI n) (nI at') nM nSL nB (nI o) (cmv hd me st bl ot) fl nN nL nBy nSt nLe nSk nMe nm (nI w) u x 0 q = J_X8_readChunk_323 N seed (nI ram) (nI en) (nI n) nM nSL nB (nI o) (cmv hd me st bl ot) fl nN nL nBy nSt nLe nSk nMe nm (nI w) u x 0 q) := by
  unfold J_X8_readChunk_296 J_X8_readChunk_316 Big
  rw [v_fail8, bd_s]
  dsimp only
  rw [m_323n (show (9 : Int32) ≠ 0 by decide)]
  constructor
  · intro h
    rw [if_pos (by rw [h.1]; rfl)]
    by_cases h4 : o = 4
    · rw [if_pos (by rw [h4]; rfl)]
    · have h5 := h.2
      rw [if_neg (by rw [show (4 : Int32) = nI 4 from rfl, nI_eq (by omega) (by omega)]; exact h4), if_neg (by rw [leI, show (60 : Int32).toInt = 60 from rfl]; omega)]
  · intro h
    by_cases h4 : w = 4
    · rw [if_pos (by rw [h4]; rfl), if_neg (by rw [show (4 : Int32) = nI 4 from rfl, nI_eq (by omega) (by omega)]; omega), if_pos (by rw [leI, show (60 : Int32).toInt = 60 from rfl]; omega)]
    · rw [if_neg (by rw [show (4 : Int32) = nI 4 from rfl, nI_eq (by omega) (by omega)]; exact h4)]
theorem m_139 (hw : w < 5) (ho : o ≤ 4) (hn : n ≤ 1200) (ha : at' ≤ 1200) : (¬ at' + 8 ≤ n → J_X8_readChunk_139 N seed (nI ram) (nI en) (nI n) (nI at') nM nSL nB (nI o) (cmv hd me st bl ot) fl nN nL nBy nSt nLe nSk nMe nm (nI w) (nI (at' + 4)) 0 q = some (nI (at' + 4), nM, nMe, nSL, nSk, nB, nSt, nLe, nI o, nN, nL, nBy, cmv hd me st bl ot, 1, nI n)) ∧ (at' + 8 ≤ n → ¬ Ok5 w (fr fl (at' + 4)) → J_X8_readChunk_139 N seed (nI ram) (nI en) (nI n) (nI at') nM nSL nB (nI o) (cmv hd me st bl ot) fl nN nL nBy nSt nLe nSk nMe nm (nI w) (nI (at' + 4)) 0 q = some (nI (at' + 8), nM, nMe, nSL, nSk, nB, nSt, nLe, nI o, nN, nL, nBy, cmv hd me st bl ot, 5, nI (at' + 4))) ∧ (at' + 8 ≤ n → Ok5 w (fr fl (at' + 4)) → J_X8_readChunk_139 N seed (nI ram) (nI en) (nI n) (nI at') nM nSL nB (nI o) (cmv hd me st bl ot) fl nN nL nBy nSt nLe nSk nMe nm (nI w) (nI (at' + 4)) 0 q = J_X8_readChunk_296 N seed (nI ram) (nI en) (nI n) (nI at') nM nSL nB (nI o) (cmv hd me st bl ot) fl nN nL nBy nSt nLe nSk nMe nm (nI w) (fr fl (at' + 4)) (nI (at' + 8)) 0 q) := by
  unfold J_X8_readChunk_139
  rw [if_pos rfl, v_has (k := 4) (by omega) rfl (by omega) hn]
  refine ⟨fun h => ?_, ?_⟩
  · rw [if_neg (by omega), bd_s, if_pos rfl]
  · generalize hx : fr fl (at' + 4) = x
    have pre : at' + 8 ≤ n → ∀ (y : Int32), J_X8_readChunk_276 N seed (nI ram) (nI en) (nI n) (nI at') nM nSL nB (nI o) (cmv hd me st bl ot) fl nN nL nBy nSt nLe nSk nMe nm (nI w) (1, 0, q) x (nI (at' + 8)) y = if x.toInt < 0 ∨ y = 0 then some (nI (at' + 8), nM, nMe, nSL, nSk, nB, nSt, nLe, nI o, nN, nL, nBy, cmv hd me st bl ot, 5, nI (at' + 4)) else J_X8_readChunk_296 N seed (nI ram) (nI en) (nI n) (nI at') nM nSL nB (nI o) (cmv hd me st bl ot) fl nN nL nBy nSt nLe nSk nMe nm (nI w) x (nI (at' + 8)) 0 q := by
      intro _ y
      unfold J_X8_readChunk_276
      rw [m_288]
      simp only [ltI, show (0 : Int32).toInt = 0 from rfl]
      by_cases h1 : x.toInt < 0
      · rw [if_pos h1, if_pos (Or.inl h1)]
      · rw [if_neg h1]
        by_cases h2 : y = 0
        · rw [if_pos h2, if_pos (Or.inr h2)]
        · rw [if_neg h2, if_neg (fun c => c.elim h1 h2)]
    have red : at' + 8 ≤ n → ∀ (P : Prop) (y : Int32), (P ↔ ¬ (x.toInt < 0 ∨ y = 0)) → (¬ P → J_X8_readChunk_276 N seed (nI ram) (nI en) (nI n) (nI at') nM nSL nB (nI o) (cmv hd me st bl ot) fl nN nL nBy nSt nLe nSk nMe nm (nI w) (1, 0, q) x (nI (at' + 8)) y = some (nI (at' + 8), nM, nMe, nSL, nSk, nB, nSt, nLe, nI o, nN, nL, nBy, cmv hd me st bl ot, 5, nI (at' + 4))) ∧ (P → J_X8_readChunk_276 N seed (nI ram) (nI en) (nI n) (nI at') nM nSL nB (nI o) (cmv hd me st bl ot) fl nN nL nBy nSt nLe nSk nMe nm (nI w) (1, 0, q) x (nI (at' + 8)) y = J_X8_readChunk_296 N seed (nI ram) (nI en) (nI n) (nI at') nM nSL nB (nI o) (cmv hd me st bl ot) fl nN nL nBy nSt nLe nSk nMe nm (nI w) x (nI (at' + 8)) 0 q) := by
      intro h P y hP
      rw [pre h]
      constructor
      · intro c
        rw [if_pos (Classical.byContradiction (fun d => c (hP.mpr d)))]
      · intro c
        rw [if_neg (hP.mp c)]
    suffices hh : at' + 8 ≤ n → (¬ Ok5 w x → _) ∧ (Ok5 w x → _) from ⟨fun h => (hh h).1, fun h => (hh h).2⟩
    intro h
    rw [if_pos (by omega), bd_s, if_neg (show ¬ (1 : Int32) = 0 by decide), show nI at' + (4 : Int32) = nI (at' + 4) from nI_add at' 4, v_four8 (by omega), bd_s, show nI (at' + 4) + (4 : Int32) = nI (at' + 8) from nI_add (at' + 4) 4, bn_s, hx]
    unfold J_X8_readChunk_271 J_X8_readChunk_275 J_X8_readChunk_238
    simp only [in_n, bd_s, bn_s, bI_0, show (12 : Int64).toInt = 12 from rfl, show (68 : Int64).toInt = 68 from rfl, ltI, show (4 : Int32).toInt = 4 from rfl, show (160 : Int32).toInt = 160 from rfl]
    have r0 := fun P => red h P 0
    have r1 := fun P => red h P 1
    unfold Ok5
    match w, hw with
    | 0, _ =>
      simp only [if_pos (show nI 0 = 0 from rfl)]
      by_cases c : x = 16
      · rw [if_pos c]
        refine r1 _ ⟨fun _ => by rw [c]; decide, fun _ => ⟨by rw [c]; decide, fun _ => c, fun d => absurd d (by omega), fun d => absurd d (by omega), fun d => absurd d (by omega)⟩⟩
      · rw [if_neg c]
        refine r0 _ ⟨fun d => absurd (d.2.1 trivial) c, fun d => absurd (Or.inr rfl) d⟩
    | 1, _ =>
      simp only [if_neg (show ¬ nI 1 = 0 by decide), if_pos (show nI 1 = 1 from rfl)]
      by_cases c : x.toInt < 4
      · rw [if_pos c]
        refine r0 _ ⟨fun d => by have := d.2.2.1 trivial; omega, fun d => absurd (Or.inr rfl) d⟩
      · rw [if_neg c]
        refine r1 _ ⟨fun _ => fun e => e.elim (by omega) (by decide), fun _ => ⟨by omega, fun d => absurd d (by omega), fun _ => by omega, fun d => absurd d (by omega), fun d => absurd d (by omega)⟩⟩
    | 2, _ =>
      simp only [if_neg (show ¬ nI 2 = 0 by decide), if_neg (show ¬ nI 2 = 1 by decide), if_pos (show nI 2 = 2 from rfl)]
      by_cases c : i_rem x 4 = 0
      · rw [if_pos c]
        by_cases c2 : 160 < x.toInt
        · rw [if_pos c2]
          refine r0 _ ⟨fun d => by have := (d.2.2.2.1 trivial).2; omega, fun d => absurd (Or.inr rfl) d⟩
        · rw [if_neg c2]
          refine r1 _ ⟨fun d => fun e => e.elim (by have := d.1; omega) (by decide), fun e => ⟨by
            have : ¬ x.toInt < 0 := fun g => e (Or.inl g)
            omega, fun d => absurd d (by omega), fun d => absurd d (by omega), fun _ => ⟨c, by omega⟩, fun d => absurd d (by omega)⟩⟩
      · rw [if_neg c]
        refine r0 _ ⟨fun d => absurd (d.2.2.2.1 trivial).1 c, fun d => absurd (Or.inr rfl) d⟩
    | 3, _ =>
      simp only [if_neg (show ¬ nI 3 = 0 by decide), if_neg (show ¬ nI 3 = 1 by decide), if_neg (show ¬ nI 3 = 2 by decide), if_pos (show nI 3 = 3 from rfl)]
      by_cases c : (12 : Int) ≤ x.toInt ∧ x.toInt ≤ 68
      · rw [if_neg (not_not_intro c)]
        by_cases c2 : i_rem x 8 = 4
        · rw [if_pos c2]
          refine r1 _ ⟨fun d => fun e => e.elim (by omega) (by decide), fun e => ⟨by omega, fun d => absurd d (by omega), fun d => absurd d (by omega), fun d => absurd d (by omega), fun _ => ⟨c.1, c.2, c2⟩⟩⟩
        · rw [if_neg c2]
          refine r0 _ ⟨fun d => absurd (d.2.2.2.2 trivial).2.2 c2, fun d => absurd (Or.inr rfl) d⟩
      · rw [if_pos c]
        refine r0 _ ⟨fun d => by have := d.2.2.2.2 trivial; omega, fun d => absurd (Or.inr rfl) d⟩
    | 4, _ =>
      simp only [if_neg (show ¬ nI 4 = 0 by decide), if_neg (show ¬ nI 4 = 1 by decide), if_neg (show ¬ nI 4 = 2 by decide), if_neg (show ¬ nI 4 = 3 by decide)]
      refine r1 _ ⟨fun d => fun e => e.elim (by have := d.1; omega) (by decide), fun e => ⟨by
            have : ¬ x.toInt < 0 := fun g => e (Or.inl g)
            omega, fun d => absurd d (by omega), fun d => absurd d (by omega), fun d => absurd d (by omega), fun d => absurd d (by omega)⟩⟩
    | _ + 5, hw => exact absurd hw (by omega)
theorem m_323 {L : Nat} (ha : at' ≤ 1200) (hL : L < 2 ^ 31) (hn : n ≤ 1200) (v : Int32) : (¬ at' + 8 + L + L % 2 ≤ n → J_X8_readChunk_323 N seed (nI ram) (nI en) (nI n) nM nSL nB nO (cmv hd me st bl ot) fl nN nL nBy nSt nLe nSk nMe nm v (nI L) (nI (at' + 8)) 0 q = some (nI (at' + 8), nM, nMe, nSL, nSk, nB, nSt, nLe, nO, nN, nL, nBy, cmv hd me st bl ot, 1, nI n)) ∧ (at' + 8 + L + L % 2 ≤ n → L % 2 = 1 ∧ fl (at' + 8 + L) ≠ 0 → J_X8_readChunk_323 N seed (nI ram) (nI en) (nI n) nM nSL nB nO (cmv hd me st bl ot) fl nN nL nBy nSt nLe nSk nMe nm v (nI L) (nI (at' + 8)) 0 q = some (nI (at' + 8), nM, nMe, nSL, nSk, nB, nSt, nLe, nO, nN, nL, nBy, cmv hd me st bl ot, 2, nI (at' + 8 + L))) ∧ (at' + 8 + L + L % 2 ≤ n → ¬ (L % 2 = 1 ∧ fl (at' + 8 + L) ≠ 0) → J_X8_readChunk_323 N seed (nI ram) (nI en) (nI n) nM nSL nB nO (cmv hd me st bl ot) fl nN nL nBy nSt nLe nSk nMe nm v (nI L) (nI (at' + 8)) 0 q = J_X8_readChunk_383 N seed (nI ram) (nI en) nM nSL nB nO (cmv hd me st bl ot) fl nN nL nBy nSt nLe nSk nMe nm v (nI L) (nI (at' + 8)) (1, 0, q)) := by
  have eL : ((nI L).toInt64 + (nI (L % 2)).toInt64).toInt = ((L + L % 2 : Nat) : Int) := by
    rw [Int64.toInt_add, tiL, tiL, nI_toInt hL, nI_toInt (show L % 2 < 2 ^ 31 by omega)]
    have : ((L + L % 2 : Nat) : Int) = (L : Int) + ((L % 2 : Nat) : Int) := rfl
    rw [this]
    exact Int.bmod_eq_of_le (by omega) (by omega)
  unfold J_X8_readChunk_323
  rw [if_pos rfl, show (2 : Int32) = nI 2 from rfl, nI_rem hL (by omega), bn_s, v_has (k := L + L % 2) (by omega) eL (by omega) hn]
  refine ⟨fun h => ?_, fun h hh => ?_, fun h hh => ?_⟩
  · rw [if_neg (by omega), bd_s, if_pos rfl]
  · rw [if_pos (by omega), bd_s, if_neg (show ¬ (1 : Int32) = 0 by decide), bn_s, if_pos (by rw [hh.1]; rfl), nI_add, gin_n (by omega) (by omega), nI_clamp (by omega), if_neg hh.2]
    rw [show nI 2 = (2 : Int32) from rfl, v_fail8, bd_s]
  · rw [if_pos (by omega), bd_s, if_neg (show ¬ (1 : Int32) = 0 by decide), bn_s]
    by_cases h2 : L % 2 = 1
    · rw [if_pos (by rw [h2]; rfl), nI_add, gin_n (by omega) (by omega), nI_clamp (by omega), if_pos (Classical.byContradiction (fun c => hh ⟨h2, c⟩))]
    · rw [if_neg (by rw [show (1 : Int32) = nI 1 from rfl, nI_eq (by omega) (by omega)]; exact h2)]
end CHK2
