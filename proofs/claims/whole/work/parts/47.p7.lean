/-! ===== hash, the constructors ===== -/
theorem lk_hashA {Q : Int32 → Int32 × Int32 → Prop} {K : Int32 → Int32 → Option Int32} {K' : Int32 → Int32 → Option (Int32 × Int32)} {f f' : Nat → Int32} {o : Nat} (ho : o ≤ 512) (hh : ∀ j, j < o → f' j = f j) (hK : ∀ h k, rel2 (K h k) (K' h k) Q) : ∀ (m fuel i : Nat) (h : Int32), i + m = o → m < fuel → rel2 (L_X1_number_7 (nI o) f K fuel h (nI i)) (L_X8_hash_12 (nI o) f' K' fuel h (nI i)) Q := by
  intro m
  induction m with
  | zero =>
    intro fuel i h h1 h2
    obtain ⟨g, rfl⟩ : ∃ g, fuel = g + 1 := ⟨fuel - 1, by omega⟩
    show rel2 (B_X1_number_7 _ _ _ _ _ _) (B_X8_hash_12 _ _ _ _ _ _) Q
    unfold B_X1_number_7 B_X8_hash_12
    simp (disch := omega) only [nI_leI]
    rw [if_pos (by omega), if_pos (by omega)]
    exact hK _ _
  | succ m ih =>
    intro fuel i h h1 h2
    obtain ⟨g, rfl⟩ : ∃ g, fuel = g + 1 := ⟨fuel - 1, by omega⟩
    show rel2 (B_X1_number_7 _ _ _ _ _ _) (B_X8_hash_12 _ _ _ _ _ _) Q
    unfold B_X1_number_7 B_X8_hash_12
    have e := hh i (by omega)
    simp (disch := omega) only [nI_leI, gin_n, nI_clamp, bn_s, nI_inc, e]
    rw [if_neg (by omega), if_neg (by omega)]
    exact ih g (i + 1) _ (by omega) (by omega)
theorem lk_hashB {Q : Int32 → Int32 × Int32 → Prop} {K : Int32 → Int32 → Option Int32} {K' : Int32 → Int32 → Option (Int32 × Int32)} {f f' : Nat → Int32} {o : Nat} (ho : o ≤ 40) (hh : ∀ j, j < o → f' j = f j) (hK : ∀ h k, rel2 (K h k) (K' h k) Q) : ∀ (m fuel i : Nat) (h : Int32), i + m = o → m < fuel → rel2 (L_X1_number_35 (nI o) f K fuel h (nI i)) (L_X8_hash_40 (nI o) f' K' fuel h (nI i)) Q := by
  intro m
  induction m with
  | zero =>
    intro fuel i h h1 h2
    obtain ⟨g, rfl⟩ : ∃ g, fuel = g + 1 := ⟨fuel - 1, by omega⟩
    show rel2 (B_X1_number_35 _ _ _ _ _ _) (B_X8_hash_40 _ _ _ _ _ _) Q
    unfold B_X1_number_35 B_X8_hash_40
    simp (disch := omega) only [nI_leI]
    rw [if_pos (by omega), if_pos (by omega)]
    exact hK _ _
  | succ m ih =>
    intro fuel i h h1 h2
    obtain ⟨g, rfl⟩ : ∃ g, fuel = g + 1 := ⟨fuel - 1, by omega⟩
    show rel2 (B_X1_number_35 _ _ _ _ _ _) (B_X8_hash_40 _ _ _ _ _ _) Q
    unfold B_X1_number_35 B_X8_hash_40
    have e := hh i (by omega)
    simp (disch := omega) only [nI_leI, gin_n, nI_clamp, bn_s, nI_inc, e]
    rw [if_neg (by omega), if_neg (by omega)]
    exact ih g (i + 1) _ (by omega) (by omega)
theorem lk_hashC {Q : Int32 → Int32 × Int32 → Prop} {K : Int32 → Int32 → Option Int32} {K' : Int32 → Int32 → Option (Int32 × Int32)} {f g f' g' : Nat → Int32} {o : Nat} (ho : o ≤ 8) (hh : ∀ j, j < o → f' j = f j ∧ g' j = g j) (hK : ∀ h k, rel2 (K h k) (K' h k) Q) : ∀ (m fuel i : Nat) (h : Int32), i + m = o → m < fuel → rel2 (L_X1_number_63 (nI o) f g K fuel h (nI i)) (L_X8_hash_68 (nI o) f' g' K' fuel h (nI i)) Q := by
  intro m
  induction m with
  | zero =>
    intro fuel i h h1 h2
    obtain ⟨fu, rfl⟩ : ∃ g, fuel = g + 1 := ⟨fuel - 1, by omega⟩
    show rel2 (B_X1_number_63 _ _ _ _ _ _ _) (B_X8_hash_68 _ _ _ _ _ _ _) Q
    unfold B_X1_number_63 B_X8_hash_68
    simp (disch := omega) only [nI_leI]
    rw [if_pos (by omega), if_pos (by omega)]
    exact hK _ _
  | succ m ih =>
    intro fuel i h h1 h2
    obtain ⟨fu, rfl⟩ : ∃ g, fuel = g + 1 := ⟨fuel - 1, by omega⟩
    show rel2 (B_X1_number_63 _ _ _ _ _ _ _) (B_X8_hash_68 _ _ _ _ _ _ _) Q
    unfold B_X1_number_63 B_X8_hash_68
    have e := hh i (by omega)
    simp (disch := omega) only [nI_leI, gin_n, nI_clamp, bn_s, nI_inc, e.1, e.2]
    rw [if_neg (by omega), if_neg (by omega)]
    exact ih fu (i + 1) _ (by omega) (by omega)
theorem ok_hash {N : Nat} (hN : 5000 ≤ N) : pm_hash Rel N := by
  intro I R J S ⟨ram, en, hS, hM, hF, hO, hB, hP, hL, hU⟩
  have hM' : Rel I R (va_up J 0 0) S := ⟨ram, en, hS, hM, hF, hO, hB, hP, hL, hU⟩
  obtain ⟨z, d, k, s, l, ⟨z1, z2⟩, ⟨d1, d2⟩, ⟨b1, b2⟩, hz, hd, hk, hm, hst, hbl, hB2⟩ := id hM
  have : rel2 (f_X7_hash N (I 6) (I 7) (I 8) (R 1) (R 2) (R 3) (R 4)) (f_X8_hash N (J 4) (J 5) (J 6) (S 0) (S 1) (S 2) (S 3)) (fun a b => a = b.1 ∧ Rel I R (va_up J 0 b.2) S) := by
    have e : rel2 (f_X1_number N (I 6) (I 7) (I 8) (R 1) (R 2) (R 3) (R 4)) (f_X8_hash N (J 4) (J 5) (J 6) (S 0) (S 1) (S 2) (S 3)) (fun a b => a = b.1 ∧ Rel I R (va_up J 0 b.2) S) := by
      unfold f_X1_number f_X8_hash
      rw [z1, z2, d1, d2, b1, b2]
      refine lk_hashA hz.2 (fun j hj => (hm j hj).1) (fun h k2 => ?_) z N 0 _ (by omega) (by omega)
      refine lk_hashB hd hst (fun h k2 => ?_) d N 0 _ (by omega) (by omega)
      refine lk_hashC hk (fun j hj => ?_) (fun h k2 => ?_) k N 0 _ (by omega) (by omega)
      · rw [(hbl j hj).1, (hbl j hj).2.1, (hbl j hj).2.2.1, (hbl j hj).2.2.2]
        exact ⟨rfl, rfl⟩
      · exact rel2_s ⟨rfl, hM'⟩
    obtain ⟨a, b, h1, h2, h3⟩ := e
    unfold f_X7_hash
    rw [h1, h2]
    exact rel2_s h3
  obtain ⟨r, ⟨r', q0⟩, h1, h2, rfl, h4⟩ := this
  exact ⟨_, _, h1, h2, h4⟩
def fil (a b : Nat) (g z : Nat → Int32) : Nat → Int32 := fun j => if a ≤ j ∧ j < b then g j else z j
theorem fil_e {a b : Nat} {g z : Nat → Int32} (h : b ≤ a) : fil a b g z = z := by
  funext j
  exact if_neg (by omega)
theorem fil_st {a b : Nat} {g z : Nat → Int32} (h : a < b) : fil (a + 1) b g (upd z a (g a)) = fil a b g z := by
  funext j
  show (if a + 1 ≤ j ∧ j < b then g j else upd z a (g a) j) = (if a ≤ j ∧ j < b then g j else z j)
  by_cases e : j = a
  · rw [e, if_neg (by omega), if_pos (by omega), upd_s]
  · rw [upd_n e]
    by_cases h2 : a ≤ j ∧ j < b
    · rw [if_pos (by omega), if_pos h2]
    · rw [if_neg (by omega), if_neg h2]
theorem fil_in {a b : Nat} {g z : Nat → Int32} {j : Nat} (h : a ≤ j ∧ j < b) : fil a b g z j = g j := if_pos h
theorem fil_out {a b : Nat} {g z : Nat → Int32} {j : Nat} (h : ¬ (a ≤ j ∧ j < b)) : fil a b g z j = z j := if_neg h
theorem fil_org (seed : Int32) (en : Nat) : fil 0 en (org seed en) (fun _ => 0) = org seed en := by
  funext j
  by_cases h : j < en
  · exact fil_in ⟨Nat.zero_le _, h⟩
  · rw [fil_out (by omega)]
    unfold org
    rw [if_neg h]
/-- a setting that is taken, or the usual one -/
def chs (x : Int32) (lo hi : Int) (st d : Int32) : Int32 := if lo ≤ x.toInt ∧ x.toInt ≤ hi ∧ i_rem x st = 0 then x else d
theorem v_inSteps (x a b st : Int32) (hs : 0 < st.toInt) : f_X4_inSteps x a b st = some (bI (a.toInt ≤ x.toInt ∧ x.toInt ≤ b.toInt ∧ i_rem x st = 0)) := by
  unfold f_X4_inSteps
  simp only [ltI, leI, show (0 : Int32).toInt = 0 from rfl, bn_s]
  by_cases h1 : x.toInt < a.toInt
  · rw [if_pos h1, bI_f (fun c => by omega)]
  · rw [if_neg h1]
    by_cases h2 : b.toInt < x.toInt
    · rw [if_pos h2, bI_f (fun c => by omega)]
    · rw [if_neg h2, if_neg (by omega), gnz_s (by omega)]
      by_cases h3 : i_rem x st = 0
      · rw [if_pos h3, bI_t ⟨by omega, by omega, h3⟩]
      · rw [if_neg h3, bI_f (fun c => h3 c.2.2)]
theorem l_X4_init {seed : Int32} {K : (Nat → Int32) → Int32 → Option (Int32 × Int32 × (Nat → Int32))} {en : Nat} (he : en ≤ 256) : ∀ (m fuel i : Nat) (z : Nat → Int32), i + m = en → m < fuel → L_X4_init_65 seed (nI en) K fuel z (nI i) = K (fil i en (org seed en) z) (nI en) := by
  intro m
  induction m with
  | zero =>
    intro fuel i z h1 h2
    obtain ⟨g, rfl⟩ : ∃ g, fuel = g + 1 := ⟨fuel - 1, by omega⟩
    show B_X4_init_65 _ _ _ _ _ _ = _
    unfold B_X4_init_65
    simp (disch := omega) only [nI_leI]
    rw [if_pos (by omega), fil_e (by omega), show i = en by omega]
  | succ m ih =>
    intro fuel i z h1 h2
    obtain ⟨g, rfl⟩ : ∃ g, fuel = g + 1 := ⟨fuel - 1, by omega⟩
    show B_X4_init_65 _ _ _ _ _ _ = _
    unfold B_X4_init_65
    have e : ((((37 : Int32) * nI i) + (seed * ((nI i / (16 : Int32)) + (1 : Int32)))) + (nI i / (7 : Int32))) &&& (255 : Int32) = org seed en i := by
      unfold org
      rw [if_pos (by omega)]
    rw [e]
    simp (disch := omega) only [show (512 : Int32) = nI 512 from rfl, nI_leI, gin_n, nI_clamp, bn_s, nI_inc]
    rw [if_neg (by omega), if_neg (by omega), ih g (i + 1) _ (by omega) (by omega), fil_st (by omega)]
theorem l_X8_init {seed : Int32} {K : (Nat → Int32) → Int32 → Option (Int32 × Int32 × Int32 × Int32 × (Nat → Int32))} {en : Nat} (he : en ≤ 256) : ∀ (m fuel i : Nat) (z : Nat → Int32), i + m = en → m < fuel → L_X8_init_267 seed (nI en) K fuel z (nI i) = K (fil i en (org seed en) z) (nI en) := by
  intro m
  induction m with
  | zero =>
    intro fuel i z h1 h2
    obtain ⟨g, rfl⟩ : ∃ g, fuel = g + 1 := ⟨fuel - 1, by omega⟩
    show B_X8_init_267 _ _ _ _ _ _ = _
    unfold B_X8_init_267
    simp (disch := omega) only [nI_leI]
    rw [if_pos (by omega), fil_e (by omega), show i = en by omega]
  | succ m ih =>
    intro fuel i z h1 h2
    obtain ⟨g, rfl⟩ : ∃ g, fuel = g + 1 := ⟨fuel - 1, by omega⟩
    show B_X8_init_267 _ _ _ _ _ _ = _
    unfold B_X8_init_267
    simp (disch := omega) only [v_orig, nI_leI, gin_n, nI_clamp, bn_s, bd_s, nI_inc]
    rw [if_neg (by omega), ih g (i + 1) _ (by omega) (by omega), fil_st (by omega)]
theorem chs_ex {x : Int32} {lo hi d : Nat} {st : Int32} (hd : lo ≤ d ∧ d ≤ hi) (hh : hi < 2 ^ 31) : ∃ n : Nat, lo ≤ n ∧ n ≤ hi ∧ chs x lo hi st (nI d) = nI n := by
  unfold chs
  by_cases h : (lo : Int) ≤ x.toInt ∧ x.toInt ≤ hi ∧ i_rem x st = 0
  · rw [if_pos h]
    obtain ⟨n, h1, h2, h3, e⟩ := low_hi (i := x) (a := lo) (b := hi + 1) ⟨h.1, by omega⟩
    exact ⟨n, h1, by omega, e⟩
  · rw [if_neg h]
    exact ⟨d, hd.1, hd.2, rfl⟩
theorem v_X4_init {N : Nat} (hN : 5000 ≤ N) (seed i2 i3 : Int32) {en : Nat} (he : en ≤ 256) (ee : chs i3 128 256 32 128 = nI en) : f_X4_init N seed i2 i3 = some (chs i2 16 96 16 16, nI en, org seed en) := by
  have last : ∀ y, J_X4_init_59 N seed y (nI en) = some (y, nI en, org seed en) := by
    intro y
    unfold J_X4_init_59
    rw [show L_X4_init_65 seed (nI en) _ N _ 0 = _ from l_X4_init he en N 0 _ (by omega) (by omega), fil_org]
  have mid : ∀ y, J_X4_init_33 N seed i3 y = some (y, nI en, org seed en) := by
    intro y
    unfold J_X4_init_33
    rw [v_inSteps _ _ _ _ (by decide), bd_s]
    unfold chs at ee
    by_cases h : (128 : Int) ≤ i3.toInt ∧ i3.toInt ≤ 256 ∧ i_rem i3 32 = 0
    · rw [if_pos h] at ee
      rw [if_neg (by rw [bI_0]; exact not_not_intro h), ee]
      exact last y
    · rw [if_neg h] at ee
      rw [if_pos (by rw [bI_0]; exact h), ee]
      exact last y
  unfold f_X4_init
  rw [v_inSteps _ _ _ _ (by decide), bd_s]
  unfold chs
  by_cases h : (16 : Int) ≤ i2.toInt ∧ i2.toInt ≤ 96 ∧ i_rem i2 16 = 0
  · rw [if_neg (by rw [bI_0]; exact not_not_intro h), if_pos h]
    exact mid _
  · rw [if_pos (by rw [bI_0]; exact h), if_neg h]
    exact mid _
theorem v_X8_init {N : Nat} (hN : 5000 ≤ N) (seed i2 i3 : Int32) {en : Nat} (he : en ≤ 256) (ee : chs i3 128 256 32 128 = nI en) : f_X8_init N seed i2 i3 = some (seed, chs i2 16 96 16 16, nI en, nI en, org seed en) := by
  have last : ∀ y, J_X8_init_253 N seed y (nI en) = some (seed, y, nI en, nI en, org seed en) := by
    intro y
    unfold J_X8_init_253
    rw [show L_X8_init_267 seed (nI en) _ N _ 0 = _ from l_X8_init he en N 0 _ (by omega) (by omega), fil_org]
  have mid : ∀ y, J_X8_init_221 N seed i3 y = some (seed, y, nI en, nI en, org seed en) := by
    intro y
    unfold J_X8_init_221 J_X8_init_250
    simp only [in_n, bd_s, bn_s, bI_0, show (128 : Int64).toInt = 128 from rfl, show (256 : Int64).toInt = 256 from rfl]
    unfold chs at ee
    by_cases h : (128 : Int) ≤ i3.toInt ∧ i3.toInt ≤ 256
    · rw [if_neg (not_not_intro h)]
      by_cases h2 : i_rem i3 32 = 0
      · rw [if_pos ⟨h.1, h.2, h2⟩] at ee
        rw [if_pos h2, ee]
        exact last y
      · rw [if_neg (fun c => h2 c.2.2)] at ee
        rw [if_neg h2, ee]
        exact last y
    · rw [if_neg (fun c => h ⟨c.1, c.2.1⟩)] at ee
      rw [if_pos h, ee]
      exact last y
  unfold f_X8_init J_X8_init_219
  simp only [in_n, bd_s, bn_s, bI_0, show (16 : Int64).toInt = 16 from rfl, show (96 : Int64).toInt = 96 from rfl]
  unfold chs
  by_cases h : (16 : Int) ≤ i2.toInt ∧ i2.toInt ≤ 96
  · rw [if_neg (not_not_intro h)]
    by_cases h2 : i_rem i2 16 = 0
    · rw [if_pos h2, if_pos ⟨h.1, h.2, h2⟩]
      exact mid _
    · rw [if_neg h2, if_neg (fun c => h2 c.2.2)]
      exact mid _
  · rw [if_pos h, if_neg (fun c => h ⟨c.1, c.2.1⟩)]
    exact mid _
theorem ok_init {N : Nat} (hN : 5000 ≤ N) : pm_init Rel N := by
  intro i1 i2 i3
  obtain ⟨ram, r1, r2, er⟩ := chs_ex (x := i2) (lo := 16) (hi := 96) (d := 16) (st := 16) (by omega) (by omega)
  obtain ⟨en, n1, n2, ee⟩ := chs_ex (x := i3) (lo := 128) (hi := 256) (d := 128) (st := 32) (by omega) (by omega)
  have v1 := v_X4_init hN i1 i2 i3 n2 ee
  have v2 := v_X8_init hN i1 i2 i3 n2 ee
  have er2 : chs i2 16 96 16 16 = nI ram := er
  rw [er2] at v1 v2
  have v3 : f_X7_init N i1 i2 i3 = some (nI en, 0, 0, va_cpy (org i1 en) (fun _ => 0) 0 0 512, nI ram, nI en, org i1 en, nI en, 0, 0, va_cpy (org i1 en) (fun _ => 0) 0 0 512) := by
    unfold f_X7_init f_X1_init f_X2_init f_X0_init f_X5_init f_X3_init f_X1_begin
    rw [v1]
    rfl
  have hc : ∀ i, i < 512 → va_cpy (org i1 en) (fun _ => 0) 0 0 512 i = org i1 en i := by
    intro i hi
    show (if 0 ≤ i ∧ i < 0 + 512 then org i1 en (0 + (i - 0)) else 0) = _
    rw [if_pos (by omega), Nat.zero_add, Nat.sub_zero]
  refine ⟨_, _, _, _, _, _, _, _, _, _, _, _, _, _, _, _, v3, v2, ram, en, ⟨⟨r1, r2⟩, ⟨n1, n2⟩, ⟨rfl, rfl⟩, ⟨rfl, rfl⟩, fun i _ => rfl⟩, ⟨en, 0, 0, fun _ => 0, fun _ => 0, ⟨rfl, rfl⟩, ⟨rfl, rfl⟩, ⟨rfl, rfl⟩, ⟨Nat.le_refl _, by omega⟩, by omega, by omega, ?_, fun i hi => absurd hi (by omega), fun i hi => absurd hi (by omega), fun i hi => absurd hi (by omega)⟩, ⟨rfl, rfl, rfl, hc⟩, ⟨0, fun _ => 0, by omega, ⟨rfl, rfl⟩, fun k hk => absurd hk (by omega)⟩, ⟨0, by omega, ⟨rfl, rfl⟩, fun k hk => absurd hk (by omega)⟩, ⟨0, 0, by omega, by omega, ⟨rfl, rfl⟩, ⟨rfl, rfl⟩⟩, Or.inl ⟨rfl, rfl⟩, ⟨0, by omega, ⟨rfl, rfl⟩, fun h => absurd h (by omega), fun h => absurd h (by omega), fun h => absurd h (by omega)⟩⟩
  intro i hi
  show org i1 en i = va_cpy (org i1 en) (fun _ => 0) 0 0 512 i ∧ Byt (va_cpy (org i1 en) (fun _ => 0) 0 0 512 i)
  rw [hc i (by omega)]
  exact ⟨rfl, Byt_org ..⟩
