/-! the rounds, without the machine -/
def rdF (ba bb bd : Nat → Int32) (bits sz : Int32) (S : yS) : yS := upF sz (gTi ba bb bd bits) 0 (S.1, S.2.1, 0)
def gSet (ba bb bd : Nat → Int32) (bits sz _k : Int32) (S : yS) : Sum yS yS := if S.2.2 = 0 then .inr S else .inl (rdF ba bb bd bits sz S)
def fSet (ls ms ba bb bd : Nat → Int32) (bits sz : Int32) : yS := upS 13 (gSet ba bb bd bits sz) id 0 (ls, ms, 1)
def gFin (E U : Nat → Int32) (k m : Int32) : Sum Int32 Int32 := if m = 0 then .inl (if U k.toNatClampNeg < E k.toNatClampNeg then 1 else 0) else .inr m
def fFin (S : yS) : Int32 := upS 12 (gFin S.1 S.2.1) id 0 S.2.2
/-- what the two sides answer: a, where there is a choice of years, else b -/
def yO (nn : Nat) (ls ms ba bb bd : Nat → Int32) (sz bits n a b v : Int32) (E U : Nat → Int32) : Prop := (v = a ∧ (∃ x, Sol nn ls ms ba bb bd sz bits x) ∧ spO nn ls ms ba bb bd sz bits n E U) ∨ (v = b ∧ ¬ ∃ x, Sol nn ls ms ba bb bd sz bits x)
theorem rd_tP {ba bb bd : Nat → Int32} {bits sz n : Int32} {S : yS} {C : Int} (hb : okB n ba bb bd sz) (hC : 0 ≤ C ∧ C ≤ 900000) (h0 : ∀ v, v < n.toNatClampNeg → (-C ≤ (S.1 v).toInt ∧ (S.1 v).toInt ≤ C) ∧ -C ≤ (S.2.1 v).toInt ∧ (S.2.1 v).toInt ≤ C) : tP n.toNatClampNeg ba bb bd bits sz S.1 S.2.1 C sz (rdF ba bb bd bits sz S) :=
  upF_inv (tP n.toNatClampNeg ba bb bd bits sz S.1 S.2.1 C) (fun _ _ k0 k1 h => tP_step hb hC (fun v hv => ⟨(h0 v hv).1.1, (h0 v hv).2.2⟩) k0 k1 h) 0 (S.1, S.2.1, 0) (by decide) hb.1.1 (tP_0 h0)
def flB (B : eR) : eR := fun a b d => B b a d
def nV (E : Nat → Int32) : Nat → Int := fun v => -(E v).toInt
def yL (ls ms : Nat → Int32) : Prop := ∀ v, v < 12 → -999 ≤ (ls v).toInt ∧ (ls v).toInt ≤ (ms v).toInt ∧ (ms v).toInt ≤ 999
theorem BE_lt {n : Int32} {ba bb bd : Nat → Int32} {sz bits : Int32} (hb : okB n ba bb bd sz) {a b : Nat} {d : Int} (h : BE ba bb bd bits sz a b d) : a < n.toNatClampNeg ∧ b < n.toNatClampNeg := by
  obtain ⟨i, h0, hi, _, rfl, rfl, _⟩ := h
  exact ⟨clampN (hb.2 i h0 hi).1, clampN (hb.2 i h0 hi).2.1⟩
/-- what holds ahead of round k -/
def rP (ls ms ba bb bd : Nat → Int32) (bits sz k : Int32) (S : yS) : Prop :=
  (∀ v, v < 12 → (ls v).toInt ≤ (S.1 v).toInt ∧ (S.2.1 v).toInt ≤ (ms v).toInt ∧ (S.1 v).toInt ≤ 999 + 4000 * k.toInt ∧ -(999 + 4000 * k.toInt) ≤ (S.2.1 v).toInt) ∧
  (∀ x, Sol 12 ls ms ba bb bd sz bits x → ∀ v, v < 12 → (S.1 v).toInt ≤ x v ∧ x v ≤ (S.2.1 v).toInt) ∧
  (S.2.2 = 0 → solB (BE ba bb bd bits sz) (vI S.1) ∧ solB (BE ba bb bd bits sz) (vI S.2.1)) ∧
  (S.2.2 = 0 ∨ S.2.2 = 1) ∧
  ∀ m1 m2, minB (BE ba bb bd bits sz) (vI ls) m1 → minB (flB (BE ba bb bd bits sz)) (nV ms) m2 → (∀ v, v < 12 → (S.1 v).toInt ≤ m1 v ∧ -(S.2.1 v).toInt ≤ m2 v) ∧ (S.2.2 = 0 ∨ (k.toInt ≤ 12 ∧ k.toInt ≤ cnt (eqB (vI S.1) m1) 12 ∧ k.toInt ≤ cnt (eqB (nV S.2.1) m2) 12))
theorem rP_step {ls ms ba bb bd : Nat → Int32} {bits sz : Int32} (hb : okB 12 ba bb bd sz) (hl : yL ls ms) {k : Int32} {S : yS} (hk0 : 0 ≤ k) (hk : k < 13) (h : rP ls ms ba bb bd bits sz k S) : rP ls ms ba bb bd bits sz (k + 1) (rdF ba bb bd bits sz S) := by
  obtain ⟨g1, g2, g3, g4, g5⟩ := h
  have ek := s1 hk
  have hkk := i0 hk0
  have hk13 : k.toInt < 13 := Int32.lt_iff_toInt_lt.mp hk
  have z20 : sz.toInt ≤ 20 := Int32.le_iff_toInt_le.mp hb.1.2
  have z0 := i0 hb.1.1
  have n12 : (12 : Int32).toNatClampNeg = 12 := rfl
  obtain ⟨t1, t2, t3, t4, t5, t6⟩ := rd_tP (n := 12) (bits := bits) (S := S) (C := 999 + 4000 * k.toInt) hb (by omega) (fun v hv => by have := g1 v hv; have := hl v hv; omega)
  rw [n12] at t1 t3
  generalize rdF ba bb bd bits sz S = S' at *
  refine ⟨fun v hv => ?_, fun x hx v hv => ?_, fun hm => ?_, ?_, fun m1 m2 h1 h2 => ?_⟩
  · have := t1 v hv; have := g1 v hv; omega
  · exact ⟨(t3 x hx.2).1 (fun v hv => (g2 x hx v hv).1) v hv, (t3 x hx.2).2 (fun v hv => (g2 x hx v hv).2) v hv⟩
  · obtain ⟨e1, e2⟩ := t4 hm
    refine ⟨fun a b d hab => ?_, fun a b d hab => ?_⟩
    · have := (t2 a b d hab).1
      rw [← e1] at this
      exact this
    · have := (t2 a b d hab).2
      rw [← e2] at this
      show (S'.2.1 a).toInt + d ≤ (S'.2.1 b).toInt
      omega
  · rcases t5 with h | h
    · exact Or.inl h
    · exact Or.inr h.1
  · obtain ⟨q1, q2⟩ := g5 m1 m2 h1 h2
    have s1' := t3 m1 h1.2.1
    have s2' := t3 (fun v => - m2 v) (fun a b d hab => by have := h2.2.1 b a d hab; show -m2 a + d ≤ -m2 b; omega)
    have r1 := s1'.1 (fun v hv => (q1 v hv).1)
    have r2 := s2'.2 (fun v hv => by have := (q1 v hv).2; show -m2 v ≤ _; omega)
    refine ⟨fun v hv => ⟨r1 v hv, by have := r2 v hv; (try dsimp only at this); omega⟩, ?_⟩
    have w1 := grow (E := vI S.1) (E' := vI S'.1) (fun a b d hab => by have := BE_lt hb hab; rw [n12] at this; exact this) h1 (fun v hv => ⟨(g1 v hv).1, (t1 v hv).1, r1 v hv⟩) (fun a b d hab => (t2 a b d hab).1)
    have w2 := grow (E := nV S.2.1) (E' := nV S'.2.1) (fun a b d hab => by have := BE_lt hb hab; rw [n12] at this; exact ⟨this.2, this.1⟩) h2 (fun v hv => ⟨by have := (g1 v hv).2.1; show -_ ≤ -_; omega, by have := (t1 v hv).2.1; show -_ ≤ -_; omega, by have := r2 v hv; (try dsimp only at this); show -_ ≤ _; omega⟩) (fun a b d hab => by have := (t2 b a d hab).2; show -_ + d ≤ -_; omega)
    by_cases hm : S'.2.2 = 0
    · exact Or.inl hm
    · right
      have hS : ¬ S.2.2 = 0 := fun hz => by
        have g := g3 hz
        exact hm (t6 g.1 g.2)
      rcases q2 with q2 | ⟨u1, u2, u3⟩
      · exact absurd q2 hS
      · by_cases hk12 : k.toInt = 12
        · exfalso
          have c1 := cnt_full 12 (show 12 ≤ cnt (eqB (vI S.1) m1) 12 by omega)
          have c2 := cnt_full 12 (show 12 ≤ cnt (eqB (nV S.2.1) m2) 12 by omega)
          refine hm (t6 (fun a b d hab => ?_) (fun a b d hab => ?_))
          · have hlt := BE_lt hb hab
            rw [n12] at hlt
            have e1 := c1 a hlt.1
            have e2 := c1 b hlt.2
            simp only [eqB, decide_eq_true_eq] at e1 e2
            rw [e1, e2]
            exact h1.2.1 a b d hab
          · have hlt := BE_lt hb hab
            rw [n12] at hlt
            have e1 : -(S.2.1 a).toInt = m2 a := of_decide_eq_true (c2 a hlt.1)
            have e2 : -(S.2.1 b).toInt = m2 b := of_decide_eq_true (c2 b hlt.2)
            have := h2.2.1 b a d hab
            show (S.2.1 a).toInt + d ≤ (S.2.1 b).toInt
            omega
        · refine ⟨by omega, ?_, ?_⟩
          · rcases w1 with w1 | w1 <;> omega
          · rcases w2 with w2 | w2 <;> omega
theorem rP_end {ls ms ba bb bd : Nat → Int32} {bits sz : Int32} (hb : okB 12 ba bb bd sz) (hl : yL ls ms) : ∃ k : Int32, 0 ≤ k ∧ k ≤ 13 ∧ rP ls ms ba bb bd bits sz k (fSet ls ms ba bb bd bits sz) ∧ ((fSet ls ms ba bb bd bits sz).2.2 = 0 ∨ k = 13) := by
  refine upS_inv (fun k S => rP ls ms ba bb bd bits sz k S) (fun S => ∃ k : Int32, 0 ≤ k ∧ k ≤ 13 ∧ rP ls ms ba bb bd bits sz k S ∧ (S.2.2 = 0 ∨ k = 13)) (fun S h => ⟨13, by decide, by decide, h, Or.inr rfl⟩) (fun k S h0 h1 h => ?_) 0 (ls, ms, 1) (by decide) (by decide) ?_
  · unfold gSet
    by_cases hm : S.2.2 = 0
    · rw [if_pos hm]
      exact Or.inr ⟨_, rfl, k, h0, by grind, h, Or.inl hm⟩
    · rw [if_neg hm]
      exact Or.inl ⟨_, rfl, rP_step hb hl h0 h1 h⟩
  · have z0 : (0 : Int32).toInt = 0 := rfl
    refine ⟨fun v hv => ?_, fun x hx v hv => hx.1 v hv, fun h => absurd (show (1 : Int32) = 0 from h) (by decide), Or.inr rfl, fun m1 m2 h1 h2 => ⟨fun v hv => ⟨h1.1 v hv, h2.1 v hv⟩, Or.inr ⟨by rw [z0]; decide, by rw [z0]; omega, by rw [z0]; omega⟩⟩⟩
    have := hl v hv
    dsimp only
    rw [z0]
    omega
theorem fFin_s (S : yS) (hm : S.2.2 = 0 ∨ S.2.2 = 1) : (fFin S = 0 ∧ S.2.2 = 0 ∧ ∀ v, v < 12 → (S.1 v).toInt ≤ (S.2.1 v).toInt) ∨ (fFin S = 1 ∧ ¬ (S.2.2 = 0 ∧ ∀ v, v < 12 → (S.1 v).toInt ≤ (S.2.1 v).toInt)) := by
  have hr := upS_inv (n := 12) (g := gFin S.1 S.2.1) (e := id) (fun k m => (m = 0 ∧ S.2.2 = 0 ∧ ∀ v, v < k.toNatClampNeg → (S.1 v).toInt ≤ (S.2.1 v).toInt) ∨ (m = 1 ∧ ¬ (S.2.2 = 0 ∧ ∀ v, v < 12 → (S.1 v).toInt ≤ (S.2.1 v).toInt))) (fun r => (r = 0 ∧ S.2.2 = 0 ∧ ∀ v, v < 12 → (S.1 v).toInt ≤ (S.2.1 v).toInt) ∨ (r = 1 ∧ ¬ (S.2.2 = 0 ∧ ∀ v, v < 12 → (S.1 v).toInt ≤ (S.2.1 v).toInt))) (fun m h => h) (fun k m h0 h1 h => ?_) 0 S.2.2 (by decide) (by decide) ?_
  · exact hr
  · unfold gFin
    rcases h with ⟨hm, hs, hv⟩ | ⟨hm, hn⟩
    · rw [if_pos hm]
      refine Or.inl ⟨_, rfl, ?_⟩
      have e1 : (k + 1).toNatClampNeg = k.toNatClampNeg + 1 := tn1 h0 (by grind)
      by_cases hc : S.2.1 k.toNatClampNeg < S.1 k.toNatClampNeg
      · rw [if_pos hc]
        refine Or.inr ⟨rfl, fun hh => ?_⟩
        have h2 := hh.2 k.toNatClampNeg (by have := clampN ⟨h0, h1⟩; exact this)
        have h3 := Int32.lt_iff_toInt_lt.mp hc
        omega
      · rw [if_neg hc]
        refine Or.inl ⟨rfl, hs, fun v hv2 => ?_⟩
        rw [e1] at hv2
        by_cases e : v = k.toNatClampNeg
        · subst e
          have h3 : ¬ (S.2.1 k.toNatClampNeg).toInt < (S.1 k.toNatClampNeg).toInt := fun h => hc (Int32.lt_iff_toInt_lt.mpr h)
          omega
        · exact hv v (by omega)
    · rw [if_neg (by rw [hm]; decide)]
      exact Or.inr ⟨_, rfl, Or.inr ⟨hm, hn⟩⟩
  · rcases hm with hm | hm
    · exact Or.inl ⟨hm, hm, fun v hv => absurd hv (Nat.not_lt_zero v)⟩
    · exact Or.inr ⟨hm, fun h => by rw [hm] at h; exact absurd h.1 (by decide)⟩
theorem i999 {x y : Int32} (h : -999 ≤ x.toInt ∧ x.toInt ≤ y.toInt ∧ y.toInt ≤ 999) : -999 ≤ x ∧ x ≤ y ∧ y ≤ 999 := ⟨Int32.le_iff_toInt_le.mpr h.1, Int32.le_iff_toInt_le.mpr h.2.1, Int32.le_iff_toInt_le.mpr h.2.2⟩
theorem set_spec {ls ms ba bb bd : Nat → Int32} {bits sz : Int32} (hb : okB 12 ba bb bd sz) (hl : yL ls ms) : yO 12 ls ms ba bb bd sz bits 12 0 1 (fFin (fSet ls ms ba bb bd bits sz)) (fSet ls ms ba bb bd bits sz).1 (fSet ls ms ba bb bd bits sz).2.1 := by
  obtain ⟨k, hk0, hk, ⟨g1, g2, g3, g4, g5⟩, he⟩ := rP_end (bits := bits) hb hl
  have hf := fFin_s (fSet ls ms ba bb bd bits sz) g4
  generalize fSet ls ms ba bb bd bits sz = S at *
  have hS : (∃ x, Sol 12 ls ms ba bb bd sz bits x) → S.2.2 = 0 ∧ ∀ v, v < 12 → (S.1 v).toInt ≤ (S.2.1 v).toInt := by
    rintro ⟨x, hx⟩
    refine ⟨?_, fun v hv => by have := g2 x hx v hv; omega⟩
    obtain ⟨m1, h1, _⟩ := minex (B := BE ba bb bd bits sz) (lo := vI ls) _ x (Nat.le_refl _) (fun v hv => (hx.1 v hv).1) hx.2
    obtain ⟨m2, h2, _⟩ := minex (B := flB (BE ba bb bd bits sz)) (lo := nV ms) _ (fun v => - x v) (Nat.le_refl _) (fun v hv => by have := (hx.1 v hv).2; show -_ ≤ -_; omega) (fun a b d hab => by have := hx.2 b a d hab; show -_ + d ≤ -_; omega)
    rcases he with he | he
    · exact he
    · rcases (g5 m1 m2 h1 h2).2 with h | h
      · exact h
      · rw [he] at h
        exact absurd h.1 (by decide)
  rcases hf with ⟨f1, f2, f3⟩ | ⟨f1, f2⟩
  · left
    have gg := g3 f2
    have sE : Sol 12 ls ms ba bb bd sz bits (vI S.1) := ⟨fun v hv => ⟨(g1 v hv).1, by have := (g1 v hv).2.1; have := f3 v hv; show (S.1 v).toInt ≤ _; omega⟩, gg.1⟩
    have sU : Sol 12 ls ms ba bb bd sz bits (vI S.2.1) := ⟨fun v hv => ⟨by have := (g1 v hv).1; have := f3 v hv; show _ ≤ (S.2.1 v).toInt; omega, (g1 v hv).2.1⟩, gg.2⟩
    refine ⟨f1, ⟨_, sE⟩, fun s h0 hs => ?_⟩
    have hv : s.toNatClampNeg < 12 := clampN ⟨h0, hs⟩
    have a1 := g1 _ hv
    have a2 := f3 _ hv
    have a3 := hl _ hv
    exact ⟨i999 (by omega), fun x hx => g2 x hx _ hv, ⟨_, sE, rfl⟩, ⟨_, sU, rfl⟩⟩
  · exact Or.inr ⟨f1, fun h => f2 (hS h)⟩
