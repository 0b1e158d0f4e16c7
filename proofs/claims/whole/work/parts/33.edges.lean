/-! edges and joins, without the machine -/
def nX (s e : Int32) : Nat := (s * 2 + e).toNatClampNeg
def mX (s e l : Int32) : Nat := ((s * 2 + e) * 4 + l).toNatClampNeg
theorem nX_n {s e : Int32} (hs : 0 ≤ s ∧ s < 12) (he : e = 0 ∨ e = 1) : nX s e = 2 * s.toNatClampNeg + e.toNatClampNeg ∧ (0 ≤ s * 2 + e ∧ s * 2 + e < 24) ∧ 2 * s + e = s * 2 + e ∧ s.toNatClampNeg < 12 := by
  obtain ⟨s, hs2, rfl⟩ := nI_ofL (x := s) (n := 12) (by decide) hs.1 hs.2
  have h : ∀ s < 12, ∀ e < 2, nX (nI s) (nI e) = 2 * (nI s).toNatClampNeg + (nI e).toNatClampNeg ∧ (0 ≤ nI s * 2 + nI e ∧ nI s * 2 + nI e < 24) ∧ 2 * nI s + nI e = nI s * 2 + nI e ∧ (nI s).toNatClampNeg < 12 := by decide +kernel
  rcases he with rfl | rfl
  · exact h s hs2 0 (by decide)
  · exact h s hs2 1 (by decide)
theorem mX_n {s e l : Int32} (hs : 0 ≤ s ∧ s < 12) (he : e = 0 ∨ e = 1) (hl : 0 ≤ l ∧ l < 4) : (0 ≤ (s * 2 + e) * 4 + l ∧ (s * 2 + e) * 4 + l < 96) ∧ mX s e l < 96 ∧ (2 * s + e) * 4 + l = (s * 2 + e) * 4 + l := by
  obtain ⟨s, hs2, rfl⟩ := nI_ofL (x := s) (n := 12) (by decide) hs.1 hs.2
  obtain ⟨l, hl2, rfl⟩ := nI_ofL (x := l) (n := 4) (by decide) hl.1 hl.2
  have h : ∀ s < 12, ∀ e < 2, ∀ l < 4, (0 ≤ (nI s * 2 + nI e) * 4 + nI l ∧ (nI s * 2 + nI e) * 4 + nI l < 96) ∧ mX (nI s) (nI e) (nI l) < 96 ∧ (2 * nI s + nI e) * 4 + nI l = (nI s * 2 + nI e) * 4 + nI l := by decide +kernel
  rcases he with rfl | rfl
  · exact h s hs2 0 (by decide) l hl2
  · exact h s hs2 1 (by decide) l hl2
theorem nX_inj {s e s' e' : Int32} (hs : 0 ≤ s ∧ s < 12) (he : e = 0 ∨ e = 1) (hs' : 0 ≤ s' ∧ s' < 12) (he' : e' = 0 ∨ e' = 1) : nX s e = nX s' e' ↔ (s = s' ∧ e = e') := by
  rw [(nX_n hs he).1, (nX_n hs' he').1]
  constructor
  · intro h
    have h0 : (0 : Int32).toNatClampNeg = 0 := rfl
    have h1 : (1 : Int32).toNatClampNeg = 1 := rfl
    rcases he with rfl | rfl <;> rcases he' with rfl | rfl
    · exact ⟨tinj hs.1 hs'.1 (by omega), rfl⟩
    · omega
    · omega
    · exact ⟨tinj hs.1 hs'.1 (by omega), rfl⟩
  · rintro ⟨rfl, rfl⟩; rfl
theorem nb_u {nb : Nat → Int32} {s e s' e' v : Int32} (hs : 0 ≤ s ∧ s < 12) (he : e = 0 ∨ e = 1) (hs' : 0 ≤ s' ∧ s' < 12) (he' : e' = 0 ∨ e' = 1) : uI nb (nX s' e') v (nX s e) = if s = s' ∧ e = e' then v else nb (nX s e) := by
  unfold uI
  simp only [nX_inj hs he hs' he']
/-- REd over the places as both write them -/
theorem ed_nb {n tl tl' : Int32} {l mk mk' nb rt lf : Nat → Int32} (h : REd n l tl tl' mk mk' nb rt lf) (hn : n ≤ 12) {x : Int32} (h0 : 0 ≤ x) (hx : x < n) : nb (nX x 0) = lf x.toNatClampNeg ∧ nb (nX x 1) = rt x.toNatClampNeg := by
  obtain ⟨_, _, _, _, h5, _⟩ := h
  have g := h5 x h0 hx
  refine ⟨?_, g.2.1⟩
  unfold nX
  rw [show x * 2 + 0 = x * 2 from by grind]
  exact g.1
theorem REd_of {n tl : Int32} {l mk mk' nb rt lf : Nat → Int32} (ht : 0 ≤ tl ∧ tl ≤ 3) (hm : ∀ j : Nat, j < 96 → mk' j = mk j ∧ 0 ≤ mk j ∧ mk j ≤ 9)
    (h5 : ∀ x : Int32, 0 ≤ x → x < n → nb (nX x 0) = lf x.toNatClampNeg ∧ nb (nX x 1) = rt x.toNatClampNeg ∧ -1 ≤ lf x.toNatClampNeg ∧ lf x.toNatClampNeg < n ∧ -1 ≤ rt x.toNatClampNeg ∧ rt x.toNatClampNeg < n ∧
      (0 ≤ rt x.toNatClampNeg → lf (rt x.toNatClampNeg).toNatClampNeg = x ∧ l (rt x.toNatClampNeg).toNatClampNeg = l x.toNatClampNeg) ∧ (0 ≤ lf x.toNatClampNeg → rt (lf x.toNatClampNeg).toNatClampNeg = x))
    (h6 : ∀ x : Int32, n ≤ x → x < 12 → nb (nX x 0) = -1 ∧ nb (nX x 1) = -1) (h7 : ∃ ch : Nat → Nat, ∀ x : Int32, 0 ≤ x → x < n → 0 ≤ rt x.toNatClampNeg → ch x.toNatClampNeg = ch (rt x.toNatClampNeg).toNatClampNeg + 1) : REd n l tl tl mk mk' nb rt lf := by
  have e : ∀ x : Int32, nX x 0 = (x * 2).toNatClampNeg := fun x => by unfold nX; rw [show x * 2 + 0 = x * 2 from by grind]
  exact ⟨rfl, ht.1, ht.2, hm, fun x h0 hx => by have := h5 x h0 hx; rw [e] at this; exact this, fun x h0 hx => by have := h6 x h0 hx; rw [e] at this; exact this, h7⟩
theorem REd_6 {n tl tl' : Int32} {l mk mk' nb rt lf : Nat → Int32} (h : REd n l tl tl' mk mk' nb rt lf) : ∀ x : Int32, n ≤ x → x < 12 → nb (nX x 0) = -1 ∧ nb (nX x 1) = -1 := fun x h0 hx => by
  unfold nX
  rw [show x * 2 + 0 = x * 2 from by grind]
  exact h.2.2.2.2.2.1 x h0 hx
def uC (n : Int32) (nb : Nat → Int32) (s : Int32) : Nat → Int32 := if (0 ≤ s ∧ s < n) ∧ ¬ nb (nX s 1) = -1 then uI (uI nb (nX s 1) (-1)) (nX (nb (nX s 1)) 0) (-1) else nb
def uRt (rt : Nat → Int32) (s : Int32) : Nat → Int32 := if s < 0 ∨ rt s.toNatClampNeg < 0 then rt else uI rt s.toNatClampNeg (-1)
def uLf (rt lf : Nat → Int32) (s : Int32) : Nat → Int32 := if s < 0 ∨ rt s.toNatClampNeg < 0 then lf else uI lf (rt s.toNatClampNeg).toNatClampNeg (-1)
theorem ed_self {n tl tl' : Int32} {l mk mk' nb rt lf : Nat → Int32} (h : REd n l tl tl' mk mk' nb rt lf) {x : Int32} (h0 : 0 ≤ x) (hx : x < n) (hr : 0 ≤ rt x.toNatClampNeg) : ¬ rt x.toNatClampNeg = x := fun e => by
  obtain ⟨_, _, _, _, _, _, ch, h7⟩ := h
  have := h7 x h0 hx hr
  rw [e] at this
  omega
theorem REd_untie {n tl tl' s : Int32} {l mk mk' nb rt lf : Nat → Int32} (h : REd n l tl tl' mk mk' nb rt lf) (hn : n ≤ 12) (hs : s < n) : REd n l tl tl' mk mk' (uC n nb s) (uRt rt s) (uLf rt lf s) := by
  have hh := h
  obtain ⟨h1, h2, h3, h4, h5, h6, ch, h7⟩ := h
  subst h1
  by_cases hc : s < 0 ∨ rt s.toNatClampNeg < 0
  · have hu : uC n nb s = nb := by
      unfold uC
      rcases hc with hc | hc
      · exact if_neg (by grind)
      · refine if_neg fun hx => hx.2 ?_
        rw [(ed_nb hh hn hx.1.1 hx.1.2).2]
        have := (h5 s hx.1.1 hx.1.2).2.2.2.2.1
        grind
    unfold uRt uLf
    rw [hu, if_pos hc, if_pos hc]
    exact hh
  · have h0 : 0 ≤ s := by grind
    have hr0 : 0 ≤ rt s.toNatClampNeg := by grind
    obtain ⟨g1, g2, g3, g4, g5, g6, g7, g8⟩ := h5 s h0 hs
    have gn := ed_nb hh hn h0 hs
    have hs12 : 0 ≤ s ∧ s < 12 := by grind
    have ho12 : 0 ≤ rt s.toNatClampNeg ∧ rt s.toNatClampNeg < 12 := by grind
    have hne := ed_self hh h0 hs hr0
    have hu : uC n nb s = uI (uI nb (nX s 1) (-1)) (nX (rt s.toNatClampNeg) 0) (-1) := by
      unfold uC
      rw [if_pos ⟨⟨h0, hs⟩, by rw [gn.2]; grind⟩, gn.2]
    unfold uRt uLf
    rw [hu, if_neg hc, if_neg hc]
    have i0 : (0 : Int32) = 0 ∨ (0 : Int32) = 1 := Or.inl rfl
    have i1 : (1 : Int32) = 0 ∨ (1 : Int32) = 1 := Or.inr rfl
    refine REd_of ⟨h2, h3⟩ h4 (fun x hx0 hx => ?_) (fun x hx0 hx => ?_) ⟨ch, fun x hx0 hx hrx => ?_⟩
    · have hx12 : 0 ≤ x ∧ x < 12 := by grind
      obtain ⟨k1, k2, k3, k4, k5, k6, k7, k8⟩ := h5 x hx0 hx
      have kn := ed_nb hh hn hx0 hx
      rw [nb_u hx12 i0 ho12 i0, nb_u hx12 i0 hs12 i1, nb_u hx12 i1 ho12 i0, nb_u hx12 i1 hs12 i1, uI_t hx0 hr0, uI_t hx0 h0]
      have n01 : ¬ ((0 : Int32) = 1) := by decide
      have n10 : ¬ ((1 : Int32) = 0) := by decide
      simp only [n01, n10, and_false, if_false, and_true]
      refine ⟨?_, ?_, ?_, ?_, ?_, ?_, ?_, ?_⟩
      · by_cases e : x = rt s.toNatClampNeg
        · rw [if_pos e, if_pos e]
        · rw [if_neg e, if_neg e]; exact kn.1
      · by_cases e : x = s
        · rw [if_pos e, if_pos e]
        · rw [if_neg e, if_neg e]; exact kn.2
      · split <;> grind
      · split <;> grind
      · split <;> grind
      · split <;> grind
      · intro hz
        by_cases e : x = s
        · rw [if_pos e] at hz; exact absurd hz (by decide)
        · rw [if_neg e] at hz ⊢
          have k9 := k7 hz
          rw [uI_t hz hr0, if_neg (fun e2 => e (by rw [e2] at k9; rw [← k9.1]; exact (g7 hr0).1))]
          exact k9
      · intro hz
        by_cases e : x = rt s.toNatClampNeg
        · rw [if_pos e] at hz; exact absurd hz (by decide)
        · rw [if_neg e] at hz ⊢
          have k9 := k8 hz
          rw [uI_t hz h0, if_neg (fun e2 => e (by rw [e2] at k9; exact k9.symm))]
          exact k9
    · have hx12 : 0 ≤ x ∧ x < 12 := by grind
      have kn := REd_6 hh x hx0 hx
      rw [nb_u hx12 i0 ho12 i0, nb_u hx12 i0 hs12 i1, nb_u hx12 i1 ho12 i0, nb_u hx12 i1 hs12 i1, kn.1, kn.2]
      exact ⟨by split <;> first | rfl | (split <;> rfl), by split <;> first | rfl | (split <;> rfl)⟩
    · rw [uI_t hx0 h0] at hrx ⊢
      by_cases e : x = s
      · rw [if_pos e] at hrx; exact absurd hrx (by decide)
      · rw [if_neg e] at hrx ⊢; exact h7 x hx0 hx hrx
theorem REd_mark {n tl tl' v : Int32} {l mk mk' nb rt lf : Nat → Int32} {j : Nat} (h : REd n l tl tl' mk mk' nb rt lf) (hv : 0 ≤ v ∧ v ≤ 9) : REd n l tl tl' (uI mk j v) (uI mk' j v) nb rt lf := by
  obtain ⟨h1, h2, h3, h4, h5⟩ := h
  refine ⟨h1, h2, h3, fun i hi => ?_, h5⟩
  by_cases e : i = j
  · subst e; rw [uI_at, uI_at]; exact ⟨rfl, hv⟩
  · rw [uI_nj e, uI_nj e]; exact h4 i hi
/-- pigeons -/
theorem php : ∀ (n : Nat) (f : Nat → Nat), (∀ i, i ≤ n → f i < n) → ∃ i j, i < j ∧ j ≤ n ∧ f i = f j := by
  intro n
  induction n with
  | zero => intro f h; exact absurd (h 0 (Nat.le_refl 0)) (by omega)
  | succ n ih =>
    intro f h
    by_cases hm : ∃ i, i ≤ n ∧ f i = f (n + 1)
    · obtain ⟨i, hi, e⟩ := hm
      exact ⟨i, n + 1, by omega, Nat.le_refl _, e⟩
    · have hne : ∀ i, i ≤ n → f i ≠ f (n + 1) := fun i hi e => hm ⟨i, hi, e⟩
      obtain ⟨i, j, hij, hj, e⟩ := ih (fun i => if f i = n then f (n + 1) else f i) (fun i hi => by
        have h1 := h i (by omega)
        have h2 := h (n + 1) (Nat.le_refl _)
        have h3 := hne i hi
        split <;> omega)
      refine ⟨i, j, hij, by omega, ?_⟩
      have h3 := hne i (by omega)
      have h4 := hne j hj
      split at e <;> split at e <;> omega
def rkF (rt : Nat → Int32) : Nat → Nat → Nat
  | 0, _ => 0
  | m + 1, x => if rt x < 0 then 0 else rkF rt m (rt x).toNatClampNeg + 1
def itF (rt : Nat → Int32) (x : Nat) : Nat → Nat
  | 0 => x
  | j + 1 => (rt (itF rt x j)).toNatClampNeg
theorem nI_t {x : Int32} (h : 0 ≤ x) : nI x.toNatClampNeg = x := by
  obtain ⟨j, hj, rfl⟩ := nI_of (x := x) (by grind)
  rw [nI_clamp hj]
theorem chain12 {n tl tl' : Int32} {l mk mk' nb rt lf : Nat → Int32} (h : REd n l tl tl' mk mk' nb rt lf) (hn : 0 ≤ n ∧ n ≤ 12) : ∃ r : Nat → Nat, ∀ x : Int32, 0 ≤ x → x < n → r x.toNatClampNeg < 12 ∧ (0 ≤ rt x.toNatClampNeg → r x.toNatClampNeg = r (rt x.toNatClampNeg).toNatClampNeg + 1) := by
  obtain ⟨_, _, _, _, h5, _, ch, h7⟩ := h
  have hr : ∀ x : Int32, 0 ≤ x → x < n → 0 ≤ rt x.toNatClampNeg → rkF rt (ch x.toNatClampNeg) x.toNatClampNeg = rkF rt (ch (rt x.toNatClampNeg).toNatClampNeg) (rt x.toNatClampNeg).toNatClampNeg + 1 := fun x h0 hx hz => by
    rw [h7 x h0 hx hz]
    simp only [rkF]
    rw [if_neg (by grind)]
  have hz : ∀ (m : Nat) (x : Nat), rt x < 0 → rkF rt m x = 0 := fun m x hx => by
    cases m with
    | zero => rfl
    | succ m => simp only [rkF]; rw [if_pos hx]
  refine ⟨fun x => rkF rt (ch x) x, fun x h0 hx => ⟨?_, fun hz => hr x h0 hx hz⟩⟩
  dsimp only
  rcases Nat.lt_or_ge (rkF rt (ch x.toNatClampNeg) x.toNatClampNeg) 12 with hlt | hge
  · exact hlt
  · exfalso
    have hN : n.toInt ≤ 12 := Int32.le_iff_toInt_le.mp hn.2
    have key : ∀ j : Nat, j ≤ 12 → (0 ≤ nI (itF rt x.toNatClampNeg j) ∧ nI (itF rt x.toNatClampNeg j) < n) ∧ itF rt x.toNatClampNeg j < 12 ∧ rkF rt (ch (itF rt x.toNatClampNeg j)) (itF rt x.toNatClampNeg j) + j = rkF rt (ch x.toNatClampNeg) x.toNatClampNeg := by
      intro j
      induction j with
      | zero =>
        intro _
        simp only [itF]
        rw [nI_t h0]
        refine ⟨⟨h0, hx⟩, ?_, rfl⟩
        have := Int32.lt_iff_toInt_lt.mp hx
        rw [tcn]
        have := i0 h0
        omega
      | succ j ih =>
        intro hj
        obtain ⟨⟨a1, a2⟩, a3, a4⟩ := ih (by omega)
        have e : (nI (itF rt x.toNatClampNeg j)).toNatClampNeg = itF rt x.toNatClampNeg j := nI_clamp (by omega)
        simp only [itF]
        generalize itF rt x.toNatClampNeg j = y at *
        have hp : 0 ≤ rt y := by
          rcases Classical.em (rt y < 0) with hq | hq
          · rw [hz _ _ hq] at a4; omega
          · grind
        have b1 := h5 _ a1 a2
        have b2 := hr _ a1 a2 (by rw [e]; exact hp)
        rw [e] at b1 b2
        rw [nI_t hp]
        refine ⟨⟨hp, b1.2.2.2.2.2.1⟩, ?_, by omega⟩
        have b3 := Int32.lt_iff_toInt_lt.mp b1.2.2.2.2.2.1
        rw [tcn]
        have := i0 hp
        omega
    obtain ⟨i, j, hij, hj, e⟩ := php 12 (itF rt x.toNatClampNeg) (fun i hi => (key i hi).2.1)
    have k1 := (key i (by omega)).2.2
    have k2 := (key j hj).2.2
    rw [e] at k1
    omega
/-- whether a chain to the right leads there -/
def leads (nb : Nat → Int32) (to : Int32) : Nat → Int32 → Bool
  | 0, _ => false
  | m + 1, x => if x = -1 then false else if x = to then true else leads nb to m (nb (nX x 1))
theorem leads_m1 {nb : Nat → Int32} {to : Int32} (m : Nat) : leads nb to m (-1) = false := by
  cases m with
  | zero => rfl
  | succ m => simp [leads]
theorem leads_s {nb : Nat → Int32} {to : Int32} (m : Nat) (x : Int32) : leads nb to (m + 1) x = if x = -1 then false else if x = to then true else leads nb to m (nb (nX x 1)) := rfl
theorem leads_stab {n tl tl' to : Int32} {l mk mk' nb rt lf : Nat → Int32} (h : REd n l tl tl' mk mk' nb rt lf) (hn : n ≤ 12) {r : Nat → Nat} (hr : ∀ x : Int32, 0 ≤ x → x < n → r x.toNatClampNeg < 12 ∧ (0 ≤ rt x.toNatClampNeg → r x.toNatClampNeg = r (rt x.toNatClampNeg).toNatClampNeg + 1)) : ∀ (m : Nat) (x : Int32), 0 ≤ x → x < n → r x.toNatClampNeg + 1 ≤ m → leads nb to (m + 1) x = leads nb to m x := by
  intro m
  induction m with
  | zero => intro x _ _ h; omega
  | succ m ih =>
    intro x h0 hx hm
    rw [leads_s (m + 1) x, leads_s m x]
    by_cases e : x = -1
    · rw [if_pos e, if_pos e]
    · rw [if_neg e, if_neg e]
      by_cases e2 : x = to
      · rw [if_pos e2, if_pos e2]
      · rw [if_neg e2, if_neg e2, (ed_nb h hn h0 hx).2]
        have g := h.2.2.2.2.1 x h0 hx
        by_cases hz : 0 ≤ rt x.toNatClampNeg
        · have := (hr x h0 hx).2 hz
          exact ih _ hz g.2.2.2.2.2.1 (by omega)
        · have e3 : rt x.toNatClampNeg = -1 := by have := g.2.2.2.2.1; grind
          rw [e3, leads_m1, leads_m1]
theorem REd_join {n tl tl' a b : Int32} {l mk mk' nb rt lf : Nat → Int32} (h : REd n l tl tl' mk mk' nb rt lf) (hn : 0 ≤ n ∧ n ≤ 12) (ha : 0 ≤ a ∧ a < n) (hb : 0 ≤ b ∧ b < n) (hra : rt a.toNatClampNeg = -1) (hlb : lf b.toNatClampNeg = -1) (hl : l b.toNatClampNeg = l a.toNatClampNeg) (hld : leads nb a 12 b = false) : REd n l tl tl' mk mk' (uI (uI nb (nX a 1) b) (nX b 0) a) (uI rt a.toNatClampNeg b) (uI lf b.toNatClampNeg a) := by
  have hh := h
  obtain ⟨r, hr⟩ := chain12 h hn
  obtain ⟨h1, h2, h3, h4, h5, h6, ch, h7⟩ := h
  subst h1
  have ha12 : 0 ≤ a ∧ a < 12 := by grind
  have hb12 : 0 ≤ b ∧ b < 12 := by grind
  have i0 : (0 : Int32) = 0 ∨ (0 : Int32) = 1 := Or.inl rfl
  have i1 : (1 : Int32) = 0 ∨ (1 : Int32) = 1 := Or.inr rfl
  have n01 : ¬ ((0 : Int32) = 1) := by decide
  have n10 : ¬ ((1 : Int32) = 0) := by decide
  refine REd_of ⟨h2, h3⟩ h4 (fun x hx0 hx => ?_) (fun x hx0 hx => ?_) ⟨fun i => if leads nb a 12 (nI i) = true then ch i + (ch b.toNatClampNeg + 1) else ch i + ch a.toNatClampNeg, fun x hx0 hx hrx => ?_⟩
  · have hx12 : 0 ≤ x ∧ x < 12 := by grind
    obtain ⟨k1, k2, k3, k4, k5, k6, k7, k8⟩ := h5 x hx0 hx
    have kn := ed_nb hh hn.2 hx0 hx
    rw [nb_u hx12 i0 hb12 i0, nb_u hx12 i0 ha12 i1, nb_u hx12 i1 hb12 i0, nb_u hx12 i1 ha12 i1, uI_t hx0 hb.1, uI_t hx0 ha.1]
    simp only [n01, n10, and_false, if_false, and_true]
    refine ⟨?_, ?_, ?_, ?_, ?_, ?_, ?_, ?_⟩
    · by_cases e : x = b
      · rw [if_pos e, if_pos e]
      · rw [if_neg e, if_neg e]; exact kn.1
    · by_cases e : x = a
      · rw [if_pos e, if_pos e]
      · rw [if_neg e, if_neg e]; exact kn.2
    · split <;> grind
    · split <;> grind
    · split <;> grind
    · split <;> grind
    · intro hz
      by_cases e : x = a
      · rw [if_pos e] at hz ⊢
        rw [uI_t hb.1 hb.1, if_pos rfl, e]
        exact ⟨rfl, hl⟩
      · rw [if_neg e] at hz ⊢
        have k9 := k7 hz
        rw [uI_t hz hb.1, if_neg (fun e2 => by rw [e2, hlb] at k9; rw [← k9.1] at hx0; exact absurd hx0 (by decide))]
        exact k9
    · intro hz
      by_cases e : x = b
      · rw [if_pos e] at hz ⊢
        rw [uI_t ha.1 ha.1, if_pos rfl, e]
      · rw [if_neg e] at hz ⊢
        have k9 := k8 hz
        rw [uI_t hz ha.1, if_neg (fun e2 => by rw [e2, hra] at k9; rw [← k9] at hx0; exact absurd hx0 (by decide))]
        exact k9
  · have hx12 : 0 ≤ x ∧ x < 12 := by grind
    have kn := REd_6 hh x hx0 hx
    have e1 : ¬ x = a := by grind
    have e2 : ¬ x = b := by grind
    rw [nb_u hx12 i0 hb12 i0, nb_u hx12 i0 ha12 i1, nb_u hx12 i1 hb12 i0, nb_u hx12 i1 ha12 i1, kn.1, kn.2]
    simp only [e1, e2, false_and, if_false]
    exact ⟨trivial, trivial⟩
  · rw [uI_t hx0 ha.1] at hrx ⊢
    dsimp only
    rw [nI_t hx0]
    by_cases e : x = a
    · rw [if_pos e, nI_t hb.1, hld, e]
      have ht : leads nb a 12 a = true := by
        rw [leads_s, if_neg (by grind), if_pos rfl]
      rw [ht, if_pos rfl, if_neg (by decide)]
      omega
    · rw [if_neg e] at hrx ⊢
      have e4 : leads nb a 12 x = leads nb a 12 (rt x.toNatClampNeg) := by
        have g := hr x hx0 hx
        have g2 := g.2 hrx
        have g3 := (h5 x hx0 hx).2.2.2.2.2.1
        rw [leads_stab hh hn.2 hr 11 (rt x.toNatClampNeg) hrx g3 (by omega)]
        rw [leads_s 11 x, if_neg (by grind), if_neg e, (ed_nb hh hn.2 hx0 hx).2]
      rw [nI_t hrx, e4, h7 x hx0 hx hrx]
      split <;> omega
theorem REd_all {n tl tl' tl2 : Int32} {l mk mk' nb rt lf nb' : Nat → Int32} (h : REd n l tl tl' mk mk' nb rt lf) (hn : 0 ≤ n ∧ n ≤ 12) (hr : ∀ x : Int32, 0 ≤ x → x < n → rt x.toNatClampNeg = -1) (hnb : ∀ j : Nat, j < 24 → nb' j = -1) (ht : 0 ≤ tl2 ∧ tl2 ≤ 3) : REd n l tl2 tl2 mk mk' nb' rt lf := by
  obtain ⟨h1, h2, h3, h4, h5, h6, ch, h7⟩ := h
  have i0 : (0 : Int32) = 0 ∨ (0 : Int32) = 1 := Or.inl rfl
  have i1 : (1 : Int32) = 0 ∨ (1 : Int32) = 1 := Or.inr rfl
  have hx : ∀ x : Int32, 0 ≤ x → x < 12 → nb' (nX x 0) = -1 ∧ nb' (nX x 1) = -1 := fun x h0 hx => by
    have g := nX_n ⟨h0, hx⟩ i0
    have g' := nX_n ⟨h0, hx⟩ i1
    have e0 : (0 : Int32).toNatClampNeg = 0 := rfl
    have e1 : (1 : Int32).toNatClampNeg = 1 := rfl
    exact ⟨hnb _ (by omega), hnb _ (by omega)⟩
  refine REd_of ht h4 (fun x h0 hxn => ?_) (fun x h0 hx2 => hx x (Int32.le_trans hn.1 h0) hx2) ⟨ch, h7⟩
  obtain ⟨k1, k2, k3, k4, k5, k6, k7, k8⟩ := h5 x h0 hxn
  have hl : lf x.toNatClampNeg = -1 := by
    rcases Classical.em (0 ≤ lf x.toNatClampNeg) with hp | hp
    · have := k8 hp
      rw [hr _ hp k4] at this
      rw [← this] at h0
      exact absurd h0 (by decide)
    · grind
  have hg := hx x h0 (Int32.lt_of_lt_of_le hxn hn.2)
  exact ⟨by rw [hg.1, hl], by rw [hg.2, hr x h0 hxn], k3, k4, k5, k6, k7, k8⟩
