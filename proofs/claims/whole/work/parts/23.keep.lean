/-! what is kept of the common state -/
theorem tinj {x y : Int32} (h0 : 0 ≤ x) (h1 : 0 ≤ y) (h : x.toNatClampNeg = y.toNatClampNeg) : x = y := by
  have a0 : (0 : Int) ≤ x.toInt := i0 h0
  have a1 : (0 : Int) ≤ y.toInt := i0 h1
  apply Int32.toInt_inj.mp
  rw [tcn, tcn] at h
  omega
theorem uI_t {α : Type} {f : Nat → α} {x y : Int32} {v : α} (h0 : 0 ≤ x) (h1 : 0 ≤ y) : uI f y.toNatClampNeg v x.toNatClampNeg = if x = y then v else f x.toNatClampNeg := by
  by_cases h : x = y
  · subst h; simp [uI]
  · rw [uI_nj (fun h2 => h (tinj h0 h1 h2)), if_neg h]
theorem RTx_of {z : Nat} {N : Nat → Nat} {I I' : Nat → Nat → Int32} {L L' : Nat → Nat → Int64} {R : Nat → Nat → Option Nat} (hT : RTx z N I L R) (h65 : I' 65 2 = I 65 2) (h2 : I' 2 5 = I 2 5) (h76 : I' 76 = I 76) (h75 : I' 75 = I 75) (h74 : I' 74 = I 74) (hI : ∀ k, 96 ≤ k → I' k = I k) (hL : ∀ k, 96 ≤ k → L' k = L k) : RTx z N I' L' R := by
  unfold RTx at hT ⊢
  rw [h65, h2, h76, h75, h74]
  obtain ⟨g1, g2, g3, g4, g5⟩ := hT
  refine ⟨g1, g2, g3, g4, fun f hf => ?_⟩
  rw [hI (96 + 2 * f) (by omega), hL (97 + 2 * f) (by omega)]
  exact g5 f hf
theorem RSt_add {n n' : Int32} {l p l' p' : Nat → Int32} {a b : Int32} (h : RSt n n' l p l' p') (hn : n < 12) (ha : 1 ≤ a ∧ a ≤ 4) (hb : 1 ≤ b ∧ b ≤ 24) : RSt (n + 1) (n + 1) (uI l n.toNatClampNeg a) (uI p n.toNatClampNeg b) (uI l' n.toNatClampNeg a) (uI p' n.toNatClampNeg b) := by
  obtain ⟨h1, h2, h3, h4⟩ := h
  refine ⟨rfl, by grind, by grind, fun x h0 hx => ?_⟩
  rw [uI_t h0 h2, uI_t h0 h2, uI_t h0 h2, uI_t h0 h2]
  by_cases e : x = n
  · simp only [if_pos e]; exact ⟨trivial, ha.1, ha.2, trivial, hb.1, hb.2⟩
  · simp only [if_neg e]; exact h4 x h0 (by grind)
theorem RHa_add {n n' : Int32} {r r' : Nat → Int32} {a : Int32} (h : RHa n n' r r') (hn : n < 6) (ha : 0 ≤ a ∧ a ≤ 9) : RHa (n + 1) (n + 1) (uI r n.toNatClampNeg a) (uI r' n.toNatClampNeg a) := by
  obtain ⟨h1, h2, h3, h4⟩ := h
  refine ⟨rfl, by grind, by grind, fun x h0 hx => ?_⟩
  rw [uI_t h0 h2, uI_t h0 h2]
  by_cases e : x = n
  · simp only [if_pos e]; exact ⟨trivial, ha.1, ha.2⟩
  · simp only [if_neg e]; exact h4 x h0 (by grind)
theorem REd_add {n : Int32} {l : Nat → Int32} {tl tl' a : Int32} {mk mk' nb rt lf : Nat → Int32} (h : REd n l tl tl' mk mk' nb rt lf) (hn : 0 ≤ n ∧ n < 12) : REd (n + 1) (uI l n.toNatClampNeg a) tl tl' mk mk' nb (uI rt n.toNatClampNeg (-1)) (uI lf n.toNatClampNeg (-1)) := by
  obtain ⟨h1, h2, h3, h4, h5, h6, ch, h7⟩ := h
  refine ⟨h1, h2, h3, h4, fun x h0 hx => ?_, fun x h0 hx => h6 x (by grind) hx, ch, fun x h0 hx hr => ?_⟩
  · rw [uI_t h0 hn.1, uI_t h0 hn.1, uI_t (f := l) h0 hn.1]
    by_cases e : x = n
    · simp only [if_pos e]
      obtain ⟨g1, g2⟩ := h6 x (by grind) (by grind)
      exact ⟨g1, g2, by decide, by grind, by decide, by grind, fun h => absurd h (by decide), fun h => absurd h (by decide)⟩
    · simp only [if_neg e]
      obtain ⟨g1, g2, g3, g4, g5, g6, g7, g8⟩ := h5 x h0 (by grind)
      refine ⟨g1, g2, g3, by grind, g5, by grind, fun h8 => ?_, fun h8 => ?_⟩
      · rw [uI_t h8 hn.1, uI_t (f := l) h8 hn.1, if_neg (by grind), if_neg (by grind)]
        exact g7 h8
      · rw [uI_t h8 hn.1, if_neg (by grind)]
        exact g8 h8
  · rw [uI_t h0 hn.1] at hr ⊢
    by_cases e : x = n
    · rw [if_pos e] at hr; exact absurd hr (by decide)
    · rw [if_neg e] at hr ⊢; exact h7 x h0 (by grind) hr
theorem RDa_add {n b b' : Int32} {ls ms ls' ms' ba bb bd ba' bb' bd' : Nat → Int32} (h : RDa n b b' ls ms ls' ms' ba bb bd ba' bb' bd') (hn : 0 ≤ n ∧ n < 12) : RDa (n + 1) b b' ls ms (uI ls' n.toNatClampNeg (-999)) (uI ms' n.toNatClampNeg 999) ba bb bd ba' bb' bd' := by
  obtain ⟨h1, h2, h3, h4, h5, h6⟩ := h
  refine ⟨h1, h2, h3, fun x h0 hx => ?_, fun x h0 hx => h5 x (by grind) hx, fun x h0 hx => ?_⟩
  · rw [uI_t h0 hn.1, uI_t h0 hn.1]
    by_cases e : x = n
    · simp only [if_pos e]
      obtain ⟨g1, g2⟩ := h5 x (by grind) (by grind)
      rw [g1, g2]
      exact ⟨rfl, rfl, by decide, by decide, by decide⟩
    · simp only [if_neg e]; exact h4 x h0 (by grind)
  · have := h6 x h0 hx
    grind
theorem RDa_years {n b b' c d : Int32} {ls ms ls' ms' ba bb bd ba' bb' bd' : Nat → Int32} {s : Int32} (h : RDa n b b' ls ms ls' ms' ba bb bd ba' bb' bd') (hs : 0 ≤ s ∧ s < n) (hc : -999 ≤ c ∧ c ≤ d ∧ d ≤ 999) : RDa n b b' (uI ls s.toNatClampNeg c) (uI ms s.toNatClampNeg d) (uI ls' s.toNatClampNeg c) (uI ms' s.toNatClampNeg d) ba bb bd ba' bb' bd' := by
  obtain ⟨h1, h2, h3, h4, h5, h6⟩ := h
  refine ⟨h1, h2, h3, fun x h0 hx => ?_, fun x h0 hx => ?_, h6⟩
  · rw [uI_t h0 hs.1, uI_t h0 hs.1, uI_t h0 hs.1, uI_t h0 hs.1]
    by_cases e : x = s
    · simp only [if_pos e]; exact ⟨trivial, trivial, hc⟩
    · simp only [if_neg e]; exact h4 x h0 hx
  · have h8 : 0 ≤ x := by grind
    have h9 : ¬ x = s := by grind
    rw [uI_t h8 hs.1, uI_t h8 hs.1, if_neg h9, if_neg h9]
    exact h5 x h0 hx
theorem RDa_bound {n b b' c d e : Int32} {ls ms ls' ms' ba bb bd ba' bb' bd' : Nat → Int32} (h : RDa n b b' ls ms ls' ms' ba bb bd ba' bb' bd') (hb : b < 20) (hc : 0 ≤ c ∧ c < n) (hd : 0 ≤ d ∧ d < n) (he : -200 ≤ e ∧ e ≤ 200) : RDa n (b + 1) (b + 1) ls ms ls' ms' (uI ba b.toNatClampNeg c) (uI bb b.toNatClampNeg d) (uI bd b.toNatClampNeg e) (uI ba' b.toNatClampNeg c) (uI bb' b.toNatClampNeg d) (uI bd' b.toNatClampNeg e) := by
  obtain ⟨h1, h2, h3, h4, h5, h6⟩ := h
  refine ⟨rfl, by grind, by grind, h4, h5, fun x h0 hx => ?_⟩
  rw [uI_t h0 h2, uI_t h0 h2, uI_t h0 h2, uI_t h0 h2, uI_t h0 h2, uI_t h0 h2]
  by_cases e : x = b
  · simp only [if_pos e]; exact ⟨trivial, trivial, trivial, hc.1, hc.2, hd.1, hd.2, he.1, he.2⟩
  · simp only [if_neg e]; exact h6 x h0 (by grind)
theorem RDa_loose {n b b' : Int32} {ls ms ls' ms' ba bb bd ba' bb' bd' : Nat → Int32} (h : RDa n b b' ls ms ls' ms' ba bb bd ba' bb' bd') (hb : 0 < b) : RDa n (b - 1) (b - 1) ls ms ls' ms' ba bb bd ba' bb' bd' := by
  obtain ⟨h1, h2, h3, h4, h5, h6⟩ := h
  exact ⟨rfl, by grind, by grind, h4, h5, fun x h0 hx => h6 x h0 (by grind)⟩
theorem RPe_add {n p p' : Int32} {nm fa nm' fa' : Nat → Int64} {st st' : Nat → Int32} (h : RPe n p p' nm fa nm' fa' st st') (hn : 0 ≤ n ∧ n < 12) : RPe (n + 1) p p' nm fa nm' fa' st st' := by
  obtain ⟨h1, h2, h3, h4⟩ := h
  refine ⟨h1, h2, h3, fun x h0 hx => ?_⟩
  obtain ⟨g1, g2, g3, g4, g5, g6⟩ := h4 x h0 hx
  exact ⟨g1, g2, g3, g4, g5, by grind⟩
theorem RPe_put {n p p' : Int32} {nm fa nm' fa' : Nat → Int64} {st st' : Nat → Int32} {a b : Int64} {s : Int32} (h : RPe n p p' nm fa nm' fa' st st') (hp : p < 12) (ha : ¬ a = 0) (hs : 0 ≤ s ∧ s < n) : RPe n (p + 1) (p + 1) (uI nm p.toNatClampNeg a) (uI fa p.toNatClampNeg b) (uI nm' p.toNatClampNeg a) (uI fa' p.toNatClampNeg b) (uI st p.toNatClampNeg s) (uI st' p.toNatClampNeg s) := by
  obtain ⟨h1, h2, h3, h4⟩ := h
  refine ⟨rfl, by grind, by grind, fun x h0 hx => ?_⟩
  rw [uI_t h0 h2, uI_t h0 h2, uI_t h0 h2, uI_t h0 h2, uI_t h0 h2, uI_t h0 h2]
  by_cases e : x = p
  · simp only [if_pos e]; exact ⟨trivial, trivial, ha, trivial, hs.1, hs.2⟩
  · simp only [if_neg e]; exact h4 x h0 (by grind)
theorem RTo_put {t k y : Nat → Int32} {j : Nat} {a b c : Int32} (h : RTo t k y) (hj : rd1 a b c) : RTo (uI t j a) (uI k j b) (uI y j c) := by
  intro x hx
  by_cases e : x = j
  · subst e; rw [uI_at, uI_at, uI_at]; exact hj
  · rw [uI_nj e, uI_nj e, uI_nj e]; exact h x hx
