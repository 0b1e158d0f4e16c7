/-! years, without the machine -/
def cnt (p : Nat → Bool) : Nat → Nat
  | 0 => 0
  | n + 1 => cnt p n + if p n = true then 1 else 0
theorem cnt_le (p : Nat → Bool) : ∀ n, cnt p n ≤ n := by
  intro n
  induction n with
  | zero => exact Nat.le_refl _
  | succ n ih => simp only [cnt]; split <;> omega
theorem cnt_mono {p q : Nat → Bool} : ∀ n, (∀ v, v < n → p v = true → q v = true) → cnt p n ≤ cnt q n := by
  intro n
  induction n with
  | zero => intro _; exact Nat.le_refl _
  | succ n ih =>
    intro h
    have h1 := ih fun v hv => h v (by omega)
    have h2 := h n (by omega)
    simp only [cnt]
    by_cases hp : p n = true
    · rw [if_pos hp, if_pos (h2 hp)]; omega
    · rw [if_neg hp]; omega
theorem cnt_lt {p q : Nat → Bool} : ∀ n, (∀ v, v < n → p v = true → q v = true) → (∃ v, v < n ∧ q v = true ∧ ¬ p v = true) → cnt p n < cnt q n := by
  intro n
  induction n with
  | zero => rintro _ ⟨v, hv, _⟩; omega
  | succ n ih =>
    rintro h ⟨v, hv, hq, hp⟩
    have h1 := cnt_mono n fun v hv => h v (by omega)
    have h2 := h n (by omega)
    simp only [cnt]
    by_cases e : v = n
    · subst e
      rw [if_neg hp, if_pos hq]
      omega
    · have h3 := ih (fun v hv => h v (by omega)) ⟨v, by omega, hq, hp⟩
      by_cases hp : p n = true
      · rw [if_pos hp, if_pos (h2 hp)]; omega
      · rw [if_neg hp]; omega
theorem cnt_full {p : Nat → Bool} : ∀ n, n ≤ cnt p n → ∀ v, v < n → p v = true := by
  intro n
  induction n with
  | zero => intro _ v hv; omega
  | succ n ih =>
    intro h v hv
    simp only [cnt] at h
    have h1 := cnt_le p n
    by_cases hp : p n = true
    · rw [if_pos hp] at h
      by_cases e : v = n
      · rw [e]; exact hp
      · exact ih (by omega) v (by omega)
    · rw [if_neg hp] at h; omega
theorem cnt_all {p : Nat → Bool} : ∀ n, (∀ v, v < n → p v = true) → n ≤ cnt p n := by
  intro n
  induction n with
  | zero => intro _; exact Nat.le_refl _
  | succ n ih =>
    intro h
    have := ih fun v hv => h v (by omega)
    simp only [cnt]
    rw [if_pos (h n (by omega))]
    omega
def smI (f : Nat → Int) : Nat → Int
  | 0 => 0
  | n + 1 => smI f n + f n
theorem smI_le {f g : Nat → Int} : ∀ n, (∀ v, v < n → f v ≤ g v) → smI f n ≤ smI g n := by
  intro n
  induction n with
  | zero => intro _; exact Int.le_refl _
  | succ n ih =>
    intro h
    have h1 := ih fun v hv => h v (by omega)
    have h2 := h n (by omega)
    simp only [smI]
    omega
theorem smI_lt {f g : Nat → Int} : ∀ n, (∀ v, v < n → f v ≤ g v) → (∃ v, v < n ∧ f v < g v) → smI f n < smI g n := by
  intro n
  induction n with
  | zero => rintro _ ⟨v, hv, _⟩; omega
  | succ n ih =>
    rintro h ⟨v, hv, hlt⟩
    have h1 := smI_le n fun v hv => h v (by omega)
    have h2 := h n (by omega)
    simp only [smI]
    by_cases e : v = n
    · subst e; omega
    · have := ih (fun v hv => h v (by omega)) ⟨v, by omega, hlt⟩
      omega
abbrev eR : Type := Nat → Nat → Int → Prop
def solB (B : eR) (x : Nat → Int) : Prop := ∀ a b d, B a b d → x a + d ≤ x b
def minB (B : eR) (lo m : Nat → Int) : Prop := (∀ v, v < 12 → lo v ≤ m v) ∧ solB B m ∧ ∀ y : Nat → Int, (∀ v, v < 12 → lo v ≤ y v ∧ y v ≤ m v) → solB B y → ∀ v, v < 12 → y v = m v
theorem minex {B : eR} {lo : Nat → Int} : ∀ (N : Nat) (x : Nat → Int), (smI x 12 - smI lo 12).toNat ≤ N → (∀ v, v < 12 → lo v ≤ x v) → solB B x → ∃ m, minB B lo m ∧ ∀ v, v < 12 → m v ≤ x v := by
  intro N
  induction N with
  | zero =>
    intro x hN hlo hx
    refine ⟨x, ⟨hlo, hx, fun y hy hs v hv => ?_⟩, fun v _ => Int.le_refl _⟩
    rcases Classical.em (y v = x v) with h | h
    · exact h
    · have h1 := smI_lt (f := y) (g := x) 12 (fun v hv => (hy v hv).2) ⟨v, hv, by have := (hy v hv).2; omega⟩
      have h2 := smI_le (f := lo) (g := y) 12 (fun v hv => (hy v hv).1)
      omega
  | succ N ih =>
    intro x hN hlo hx
    by_cases h : ∃ y : Nat → Int, (∀ v, v < 12 → lo v ≤ y v ∧ y v ≤ x v) ∧ solB B y ∧ ∃ v, v < 12 ∧ y v < x v
    · obtain ⟨y, hy, hs, hv⟩ := h
      have h1 := smI_lt (f := y) (g := x) 12 (fun v hv => (hy v hv).2) hv
      have h2 := smI_le (f := lo) (g := y) 12 (fun v hv => (hy v hv).1)
      obtain ⟨m, hm, hmy⟩ := ih y (by omega) (fun v hv => (hy v hv).1) hs
      exact ⟨m, hm, fun v hv => Int.le_trans (hmy v hv) (hy v hv).2⟩
    · refine ⟨x, ⟨hlo, hx, fun y hy hs v hv => ?_⟩, fun v _ => Int.le_refl _⟩
      rcases Classical.em (y v = x v) with h1 | h1
      · exact h1
      · exact absurd ⟨y, hy, hs, v, hv, by have := (hy v hv).2; omega⟩ h
def eqB (E m : Nat → Int) : Nat → Bool := fun v => decide (E v = m v)
theorem grow {B : eR} (hB : ∀ a b d, B a b d → a < 12 ∧ b < 12) {lo m E E' : Nat → Int} (hm : minB B lo m) (hE : ∀ v, v < 12 → lo v ≤ E v ∧ E v ≤ E' v ∧ E' v ≤ m v) (hs : ∀ a b d, B a b d → E a + d ≤ E' b) : (12 ≤ cnt (eqB E m) 12 ∧ 12 ≤ cnt (eqB E' m) 12) ∨ cnt (eqB E m) 12 < cnt (eqB E' m) 12 := by
  have hmono : ∀ v, v < 12 → eqB E m v = true → eqB E' m v = true := fun v hv h => by
    have h1 := hE v hv
    simp only [eqB, decide_eq_true_eq] at h ⊢
    omega
  by_cases h : ∃ v, v < 12 ∧ ¬ E v = m v ∧ E' v = m v
  · right
    obtain ⟨v, hv, h1, h2⟩ := h
    exact cnt_lt 12 hmono ⟨v, hv, by simpa [eqB] using h2, by simpa [eqB] using h1⟩
  · left
    have key := hm.2.2 (fun v => if E v = m v then m v else m v - 1) (fun v hv => by
      have h1 := hE v hv
      try dsimp only
      split <;> omega) (fun a b d hab => by
      have h1 := hB a b d hab
      have h2 := hs a b d hab
      have h3 := hm.2.1 a b d hab
      have h4 := hE b h1.2
      have h5 : E b = m b ∨ ¬ E' b = m b := by
        rcases Classical.em (E b = m b) with h6 | h6
        · exact Or.inl h6
        · exact Or.inr fun h7 => h ⟨b, h1.2, h6, h7⟩
      try dsimp only
      split <;> split <;> omega)
    have all : ∀ v, v < 12 → eqB E m v = true := fun v hv => by
      have h1 := key v hv
      simp only [eqB, decide_eq_true_eq]
      rcases Classical.em (E v = m v) with h6 | h6
      · exact h6
      · rw [if_neg h6] at h1; omega
    exact ⟨cnt_all 12 all, cnt_all 12 fun v hv => hmono v hv (all v hv)⟩
/-! one bound, in rows -/
def bitI (bits i : Int32) : Prop := (bits >>> (i &&& 31)) &&& 1 = 1
theorem and1 (x : Int32) : x &&& 1 = 0 ∨ x &&& 1 = 1 := by
  have h2 : (x &&& 1).toBitVec.toNat = x.toBitVec.toNat % 2 := by
    have : (x &&& 1).toBitVec = x.toBitVec &&& 1#32 := rfl
    rw [this, BitVec.toNat_and]
    exact Nat.and_two_pow_sub_one_eq_mod _ 1
  rcases Nat.mod_two_eq_zero_or_one x.toBitVec.toNat with h | h
  · left
    apply Int32.toBitVec_inj.mp
    apply BitVec.eq_of_toNat_eq
    rw [h2, h]
    rfl
  · right
    apply Int32.toBitVec_inj.mp
    apply BitVec.eq_of_toNat_eq
    rw [h2, h]
    rfl
abbrev yS : Type := (Nat → Int32) × (Nat → Int32) × Int32
def stE (E : Nat → Int32) (a b : Nat) (d : Int32) : Nat → Int32 := if E b < E a + d then uI E b (E a + d) else E
def stU (U : Nat → Int32) (a b : Nat) (d : Int32) : Nat → Int32 := if U b - d < U a then uI U a (U b - d) else U
def gT1 (a b : Nat) (d : Int32) (S : yS) : yS := (stE S.1 a b d, stU S.2.1 a b d, if S.1 b < S.1 a + d ∨ S.2.1 b - d < S.2.1 a then 1 else S.2.2)
def gTi (ba bb bd : Nat → Int32) (bits k : Int32) (S : yS) : yS := if (bits >>> (k &&& 31)) &&& 1 = 1 then gT1 (ba k.toNatClampNeg).toNatClampNeg (bb k.toNatClampNeg).toNatClampNeg (bd k.toNatClampNeg) S else S
theorem stE_s {E : Nat → Int32} {a b : Nat} {d : Int32} (hd : -200 ≤ d.toInt ∧ d.toInt ≤ 200) (ha : -1000000 ≤ (E a).toInt ∧ (E a).toInt ≤ 1000000) : (∀ v, (E v).toInt ≤ (stE E a b d v).toInt) ∧ (E a).toInt + d.toInt ≤ (stE E a b d b).toInt ∧ (∀ v, (stE E a b d v).toInt = (E v).toInt ∨ (v = b ∧ (stE E a b d v).toInt = (E a).toInt + d.toInt)) ∧ (¬ E b < E a + d → stE E a b d = E) ∧ (E b < E a + d → (E b).toInt < (stE E a b d b).toInt) := by
  have hp : (E a + d).toInt = (E a).toInt + d.toInt := ti_add (by omega)
  unfold stE
  by_cases h : E b < E a + d
  · have h1 := Int32.lt_iff_toInt_lt.mp h
    rw [if_pos h]
    refine ⟨fun v => ?_, ?_, fun v => ?_, fun h2 => absurd h h2, fun _ => ?_⟩
    · unfold uI
      split
      · rename_i e; rw [e]; omega
      · exact Int.le_refl _
    · rw [uI_at, hp]; exact Int.le_refl _
    · unfold uI
      split
      · rename_i e; exact Or.inr ⟨e, hp⟩
      · exact Or.inl rfl
    · rw [uI_at]; exact h1
  · have h1 : ¬ (E b).toInt < (E a + d).toInt := fun h2 => h (Int32.lt_iff_toInt_lt.mpr h2)
    rw [if_neg h]
    exact ⟨fun v => Int.le_refl _, by omega, fun v => Or.inl rfl, fun _ => rfl, fun h2 => absurd h2 h⟩
theorem stU_s {U : Nat → Int32} {a b : Nat} {d : Int32} (hd : -200 ≤ d.toInt ∧ d.toInt ≤ 200) (hb : -1000000 ≤ (U b).toInt ∧ (U b).toInt ≤ 1000000) : (∀ v, (stU U a b d v).toInt ≤ (U v).toInt) ∧ (stU U a b d a).toInt ≤ (U b).toInt - d.toInt ∧ (∀ v, (stU U a b d v).toInt = (U v).toInt ∨ (v = a ∧ (stU U a b d v).toInt = (U b).toInt - d.toInt)) ∧ (¬ U b - d < U a → stU U a b d = U) ∧ (U b - d < U a → (stU U a b d a).toInt < (U a).toInt) := by
  have hp : (U b - d).toInt = (U b).toInt - d.toInt := ti_sub (by omega)
  unfold stU
  by_cases h : U b - d < U a
  · have h1 := Int32.lt_iff_toInt_lt.mp h
    rw [if_pos h]
    refine ⟨fun v => ?_, ?_, fun v => ?_, fun h2 => absurd h h2, fun _ => ?_⟩
    · unfold uI
      split
      · rename_i e; rw [e]; omega
      · exact Int.le_refl _
    · rw [uI_at, hp]; exact Int.le_refl _
    · unfold uI
      split
      · rename_i e; exact Or.inr ⟨e, hp⟩
      · exact Or.inl rfl
    · rw [uI_at]; exact h1
  · have h1 : ¬ (U b - d).toInt < (U a).toInt := fun h2 => h (Int32.lt_iff_toInt_lt.mpr h2)
    rw [if_neg h]
    exact ⟨fun v => Int.le_refl _, by omega, fun v => Or.inl rfl, fun _ => rfl, fun h2 => absurd h2 h⟩
/-- the bounds that are in, as edges -/
def BE (ba bb bd : Nat → Int32) (bits k : Int32) : eR := fun a b d => ∃ i : Int32, 0 ≤ i ∧ i < k ∧ bitI bits i ∧ a = (ba i.toNatClampNeg).toNatClampNeg ∧ b = (bb i.toNatClampNeg).toNatClampNeg ∧ d = (bd i.toNatClampNeg).toInt
def vI (E : Nat → Int32) : Nat → Int := fun v => (E v).toInt
def okB (n : Int32) (ba bb bd : Nat → Int32) (sz : Int32) : Prop := (0 ≤ sz ∧ sz ≤ 20) ∧ ∀ i : Int32, 0 ≤ i → i < sz → (0 ≤ ba i.toNatClampNeg ∧ ba i.toNatClampNeg < n) ∧ (0 ≤ bb i.toNatClampNeg ∧ bb i.toNatClampNeg < n) ∧ -200 ≤ bd i.toNatClampNeg ∧ bd i.toNatClampNeg ≤ 200
def tP (nn : Nat) (ba bb bd : Nat → Int32) (bits sz : Int32) (E0 U0 : Nat → Int32) (C : Int) (k : Int32) (S : yS) : Prop :=
  (∀ v, v < nn → (E0 v).toInt ≤ (S.1 v).toInt ∧ (S.2.1 v).toInt ≤ (U0 v).toInt ∧ -(C + 200 * k.toInt) ≤ (S.2.1 v).toInt ∧ (S.1 v).toInt ≤ C + 200 * k.toInt) ∧
  (∀ a b d, BE ba bb bd bits k a b d → (E0 a).toInt + d ≤ (S.1 b).toInt ∧ (S.2.1 a).toInt ≤ (U0 b).toInt - d) ∧
  (∀ x : Nat → Int, solB (BE ba bb bd bits sz) x → ((∀ v, v < nn → (E0 v).toInt ≤ x v) → ∀ v, v < nn → (S.1 v).toInt ≤ x v) ∧ ((∀ v, v < nn → x v ≤ (U0 v).toInt) → ∀ v, v < nn → x v ≤ (S.2.1 v).toInt)) ∧
  (S.2.2 = 0 → S.1 = E0 ∧ S.2.1 = U0) ∧ (S.2.2 = 0 ∨ (S.2.2 = 1 ∧ smI (vI E0) nn - smI (vI U0) nn < smI (vI S.1) nn - smI (vI S.2.1) nn)) ∧
  (solB (BE ba bb bd bits sz) (vI E0) → solB (BE ba bb bd bits sz) (vI U0) → S.2.2 = 0)
theorem clampN {x n : Int32} (h : 0 ≤ x ∧ x < n) : x.toNatClampNeg < n.toNatClampNeg := by
  have h1 := Int32.lt_iff_toInt_lt.mp h.2
  have h2 := i0 h.1
  rw [tcn, tcn]
  omega
theorem tP_step {ba bb bd : Nat → Int32} {bits sz n : Int32} {E0 U0 : Nat → Int32} {C : Int} (hb : okB n ba bb bd sz) (hC : 0 ≤ C ∧ C ≤ 900000) (h0 : ∀ v, v < n.toNatClampNeg → -C ≤ (E0 v).toInt ∧ (U0 v).toInt ≤ C) {k : Int32} {S : yS} (hk0 : 0 ≤ k) (hk : k < sz) (h : tP n.toNatClampNeg ba bb bd bits sz E0 U0 C k S) : tP n.toNatClampNeg ba bb bd bits sz E0 U0 C (k + 1) (gTi ba bb bd bits k S) := by
  obtain ⟨g1, g2, g3, g4, g5, g6⟩ := h
  have ek := s1 hk
  have hkk := i0 hk0
  have hk20 : k.toInt < 20 := by
    have h1 := Int32.lt_iff_toInt_lt.mp hk
    have h2 := Int32.le_iff_toInt_le.mp hb.1.2
    rw [show (20 : Int32).toInt = 20 from rfl] at h2
    omega
  have hup : ∀ i : Int32, i < k + 1 → i < k ∨ i = k := fun i hi => by grind
  obtain ⟨ha, hbb, hd1, hd2⟩ := hb.2 k hk0 hk
  have hd : -200 ≤ (bd k.toNatClampNeg).toInt ∧ (bd k.toNatClampNeg).toInt ≤ 200 := ⟨Int32.le_iff_toInt_le.mp hd1, Int32.le_iff_toInt_le.mp hd2⟩
  have ha12 := clampN ha
  have hb12 := clampN hbb
  unfold gTi
  by_cases hbit : (bits >>> (k &&& 31)) &&& 1 = 1
  · rw [if_pos hbit]
    have hin : BE ba bb bd bits sz (ba k.toNatClampNeg).toNatClampNeg (bb k.toNatClampNeg).toNatClampNeg (bd k.toNatClampNeg).toInt := ⟨k, hk0, hk, hbit, rfl, rfl, rfl⟩
    have hBk : ∀ a b d, BE ba bb bd bits (k + 1) a b d → BE ba bb bd bits k a b d ∨ (a = (ba k.toNatClampNeg).toNatClampNeg ∧ b = (bb k.toNatClampNeg).toNatClampNeg ∧ d = (bd k.toNatClampNeg).toInt) := by
      rintro a b d ⟨i, hi0, hi, hbi, ea, eb, ed⟩
      rcases hup i hi with h1 | h1
      · exact Or.inl ⟨i, hi0, h1, hbi, ea, eb, ed⟩
      · subst h1; exact Or.inr ⟨ea, eb, ed⟩
    generalize (ba k.toNatClampNeg).toNatClampNeg = a at *
    generalize (bb k.toNatClampNeg).toNatClampNeg = b at *
    generalize bd k.toNatClampNeg = d at *
    obtain ⟨E, U, m⟩ := S
    dsimp only at g1 g2 g3 g4 g5 g6
    have ga := g1 a ha12
    have gb := g1 b hb12
    have za := h0 a ha12
    have zb := h0 b hb12
    obtain ⟨p1, p2, p3, p4, p5⟩ := stE_s (E := E) (a := a) (b := b) hd (by omega)
    obtain ⟨q1, q2, q3, q4, q5⟩ := stU_s (U := U) (a := a) (b := b) hd (by omega)
    unfold gT1
    dsimp only
    refine ⟨fun v hv => ?_, fun a' b' d' hab => ?_, fun x hx => ⟨fun hlo v hv => ?_, fun hup v hv => ?_⟩, fun hm => ?_, ?_, fun hE hU => ?_⟩
    · dsimp only
      have := g1 v hv
      have := p1 v
      have := q1 v
      rcases p3 v with h1 | h1 <;> rcases q3 v with h2 | h2 <;> omega
    · dsimp only
      rcases hBk a' b' d' hab with h1 | ⟨rfl, rfl, rfl⟩
      · have := g2 a' b' d' h1
        have := p1 b'
        have := q1 a'
        omega
      · omega
    · dsimp only
      have hx1 := hx _ _ _ hin
      have h2 := (g3 x hx).1 hlo
      rcases p3 v with h1 | h1
      · rw [h1]; exact h2 v hv
      · have := h2 a ha12
        rw [h1.2, h1.1]
        omega
    · dsimp only
      have hx1 := hx _ _ _ hin
      have h2 := (g3 x hx).2 hup
      rcases q3 v with h1 | h1
      · rw [h1]; exact h2 v hv
      · have := h2 b hb12
        rw [h1.2, h1.1]
        omega
    · dsimp only at hm ⊢
      by_cases hc : E b < E a + d ∨ U b - d < U a
      · rw [if_pos hc] at hm; exact absurd (show (1 : Int32) = 0 from hm) (by decide)
      · rw [if_neg hc] at hm
        rw [p4 (fun h => hc (Or.inl h)), q4 (fun h => hc (Or.inr h))]
        exact g4 hm
    · dsimp only
      have mE := smI_le (f := vI E) (g := vI (stE E a b d)) n.toNatClampNeg (fun v _ => p1 v)
      have mU := smI_le (f := vI (stU U a b d)) (g := vI U) n.toNatClampNeg (fun v _ => q1 v)
      have mE0 := smI_le (f := vI E0) (g := vI E) n.toNatClampNeg (fun v hv => (g1 v hv).1)
      have mU0 := smI_le (f := vI U) (g := vI U0) n.toNatClampNeg (fun v hv => (g1 v hv).2.1)
      by_cases hc : E b < E a + d ∨ U b - d < U a
      · rw [if_pos hc]
        refine Or.inr ⟨rfl, ?_⟩
        rcases hc with hc | hc
        · have := smI_lt (f := vI E) (g := vI (stE E a b d)) n.toNatClampNeg (fun v _ => p1 v) ⟨b, hb12, p5 hc⟩
          omega
        · have := smI_lt (f := vI (stU U a b d)) (g := vI U) n.toNatClampNeg (fun v _ => q1 v) ⟨a, ha12, q5 hc⟩
          omega
      · rw [if_neg hc]
        rcases g5 with h1 | h1
        · exact Or.inl h1
        · exact Or.inr ⟨h1.1, by omega⟩
    · dsimp only
      have hm := g6 hE hU
      obtain ⟨e1, e2⟩ := g4 hm
      have h1 := hE _ _ _ hin
      have h2 := hU _ _ _ hin
      unfold vI at h1 h2
      rw [if_neg]
      · exact hm
      · rintro (hc | hc)
        · have h3 := p5 hc
          have h4 := p3 b
          rw [e1] at h3 h4
          rcases h4 with h4 | h4 <;> omega
        · have h3 := q5 hc
          have h4 := q3 a
          rw [e2] at h3 h4
          rcases h4 with h4 | h4 <;> omega
  · rw [if_neg hbit]
    have hBk : ∀ a b d, BE ba bb bd bits (k + 1) a b d → BE ba bb bd bits k a b d := by
      rintro a b d ⟨i, hi0, hi, hbi, ea, eb, ed⟩
      rcases hup i hi with h1 | h1
      · exact ⟨i, hi0, h1, hbi, ea, eb, ed⟩
      · subst h1; exact absurd hbi hbit
    exact ⟨fun v hv => by have := g1 v hv; omega, fun a b d hab => g2 a b d (hBk a b d hab), g3, g4, g5, g6⟩
theorem tP_0 {ba bb bd : Nat → Int32} {bits sz n : Int32} {E0 U0 : Nat → Int32} {C : Int} (h0 : ∀ v, v < n.toNatClampNeg → (-C ≤ (E0 v).toInt ∧ (E0 v).toInt ≤ C) ∧ -C ≤ (U0 v).toInt ∧ (U0 v).toInt ≤ C) : tP n.toNatClampNeg ba bb bd bits sz E0 U0 C 0 (E0, U0, 0) := by
  have z0 : (0 : Int32).toInt = 0 := rfl
  refine ⟨fun v hv => ?_, fun a b d hab => ?_, fun x hx => ⟨fun h => h, fun h => h⟩, fun _ => ⟨rfl, rfl⟩, Or.inl rfl, fun _ _ => rfl⟩
  · have := h0 v hv
    dsimp only
    rw [z0]
    omega
  · obtain ⟨i, hi0, hi, _⟩ := hab
    exact absurd hi (by grind)
/-- a choice of years -/
def Sol (nn : Nat) (ls ms ba bb bd : Nat → Int32) (sz bits : Int32) (x : Nat → Int) : Prop := (∀ v, v < nn → (ls v).toInt ≤ x v ∧ x v ≤ (ms v).toInt) ∧ solB (BE ba bb bd bits sz) x
/-- what is known where spans have been found -/
def spO (nn : Nat) (ls ms ba bb bd : Nat → Int32) (sz bits n : Int32) (E U : Nat → Int32) : Prop := ∀ s : Int32, 0 ≤ s → s < n → (-999 ≤ E s.toNatClampNeg ∧ E s.toNatClampNeg ≤ U s.toNatClampNeg ∧ U s.toNatClampNeg ≤ 999) ∧ (∀ x, Sol nn ls ms ba bb bd sz bits x → (E s.toNatClampNeg).toInt ≤ x s.toNatClampNeg ∧ x s.toNatClampNeg ≤ (U s.toNatClampNeg).toInt) ∧ (∃ x, Sol nn ls ms ba bb bd sz bits x ∧ x s.toNatClampNeg = (E s.toNatClampNeg).toInt) ∧ ∃ x, Sol nn ls ms ba bb bd sz bits x ∧ x s.toNatClampNeg = (U s.toNatClampNeg).toInt
theorem spO_eq {nn : Nat} {ls ms ba bb bd E U E' U' : Nat → Int32} {sz bits n : Int32} (h : spO nn ls ms ba bb bd sz bits n E U) (h' : spO nn ls ms ba bb bd sz bits n E' U') {s : Int32} (h0 : 0 ≤ s) (hs : s < n) : E' s.toNatClampNeg = E s.toNatClampNeg ∧ U' s.toNatClampNeg = U s.toNatClampNeg := by
  obtain ⟨-, a1, ⟨x, hx, ex⟩, y, hy, ey⟩ := h s h0 hs
  obtain ⟨-, b1, ⟨x', hx', ex'⟩, y', hy', ey'⟩ := h' s h0 hs
  have c1 := (a1 x' hx').1
  have c2 := (b1 x hx).1
  have c3 := (a1 y' hy').2
  have c4 := (b1 y hy).2
  exact ⟨Int32.toInt_inj.mp (by omega), Int32.toInt_inj.mp (by omega)⟩
