/-! a printed line read back -/
def shL (b : Int32) : Int32 := if b = 95 then 26 else if 97 ≤ b ∧ b ≤ 122 then b - 97 else -1
def bare (b : Int32) : Int32 := if b = 63 ∨ b = 45 then fTd 3 0 else if b = 35 then fTd 4 0 else if shL b = -1 then 0 else fTd 0 (shL b)
def bitO (c : Int32) : Int32 := 1 <<< ((if c = 95 then 26 else c - 97) &&& 31)
def tpA (bt : Nat → Int32) (sz a : Int32) : Int32 := if 0 ≤ a ∧ a < sz then bt a.toNatClampNeg &&& 255 else -1
def gPc (T : Int32 → Int32) (p : Int32) (S : Int32 × (Nat → Int32)) : Sum (Int32 × (Nat → Int32)) (Int32 × (Nat → Int32)) :=
  if T S.1 = 60 then (if shL (T (S.1 + 1)) = -1 then .inr (S.1 + 1, S.2) else if ¬ T (S.1 + 2) = 62 then .inr (S.1 + 2, S.2) else .inl (S.1 + 3, uI S.2 p.toNatClampNeg (fTd 5 (shL (T (S.1 + 1))))))
  else if T S.1 = 91 then (if shL (T (S.1 + 1)) = -1 then .inr (S.1 + 1, S.2) else if ¬ T (S.1 + 2) = 93 then .inr (S.1 + 2, S.2) else .inl (S.1 + 3, uI S.2 p.toNatClampNeg (fTd 3 0)))
  else if bare (T S.1) = 0 then .inr (S.1, uI S.2 p.toNatClampNeg (bare (T S.1))) else .inl (S.1 + 1, uI S.2 p.toNatClampNeg (bare (T S.1)))
def ePc (sz : Int32) (S : Int32 × (Nat → Int32)) : Int32 × (Nat → Int32) := (if S.1 < sz then S.1 else -1, S.2)
def fPc (T : Int32 → Int32) (sz n : Int32) (pr : Nat → Int32) : Int32 × (Nat → Int32) := upS n (gPc T) (ePc sz) 0 (0, pr)
abbrev bkS : Type := Int32 × (Nat → Int32) × (Nat → Int32)
def sgn (c : Int32) : Prop := (97 ≤ c ∧ c ≤ 122) ∨ c = 95
def gPr (tp : Nat → Int32) (sz p : Int32) (S : bkS) : Sum bkS bkS :=
  if S.1 = sz then .inr (-20 - sz, S.2)
  else if (97 ≤ tp S.1.toNatClampNeg ∧ tp S.1.toNatClampNeg ≤ 122) ∨ tp S.1.toNatClampNeg = 95 then .inl (S.1 + 1, uI S.2.1 p.toNatClampNeg 0, uI S.2.2 p.toNatClampNeg (bitO (tp S.1.toNatClampNeg)))
  else if tp S.1.toNatClampNeg = 63 ∨ tp S.1.toNatClampNeg = 45 then .inl (S.1 + 1, uI S.2.1 p.toNatClampNeg 3, uI S.2.2 p.toNatClampNeg 134217727)
  else if tp S.1.toNatClampNeg = 35 then .inl (S.1 + 1, uI S.2.1 p.toNatClampNeg 4, uI S.2.2 p.toNatClampNeg 134217727)
  else if tp S.1.toNatClampNeg = 60 then
    (if S.1 + 1 = sz ∨ ¬ ((97 ≤ tp (S.1 + 1).toNatClampNeg ∧ tp (S.1 + 1).toNatClampNeg ≤ 122) ∨ tp (S.1 + 1).toNatClampNeg = 95) then .inr (-20 - (S.1 + 1), uI S.2.1 p.toNatClampNeg 5, uI S.2.2 p.toNatClampNeg 134217727)
     else if S.1 + 1 + 1 = sz ∨ ¬ tp (S.1 + 1 + 1).toNatClampNeg = 62 then .inr (-20 - (S.1 + 1 + 1), uI S.2.1 p.toNatClampNeg 5, uI (uI S.2.2 p.toNatClampNeg 134217727) p.toNatClampNeg (bitO (tp (S.1 + 1).toNatClampNeg)))
     else .inl (S.1 + 1 + 1 + 1, uI S.2.1 p.toNatClampNeg 5, uI (uI S.2.2 p.toNatClampNeg 134217727) p.toNatClampNeg (bitO (tp (S.1 + 1).toNatClampNeg))))
  else if tp S.1.toNatClampNeg = 91 then
    (if S.1 + 1 = sz ∨ ¬ ((97 ≤ tp (S.1 + 1).toNatClampNeg ∧ tp (S.1 + 1).toNatClampNeg ≤ 122) ∨ tp (S.1 + 1).toNatClampNeg = 95) then .inr (-20 - (S.1 + 1), uI S.2.1 p.toNatClampNeg 3, uI S.2.2 p.toNatClampNeg 134217727)
     else if S.1 + 1 + 1 = sz ∨ ¬ tp (S.1 + 1 + 1).toNatClampNeg = 93 then .inr (-20 - (S.1 + 1 + 1), uI S.2.1 p.toNatClampNeg 3, uI S.2.2 p.toNatClampNeg 134217727)
     else .inl (S.1 + 1 + 1 + 1, uI S.2.1 p.toNatClampNeg 3, uI S.2.2 p.toNatClampNeg 134217727))
  else .inr (-20 - S.1, S.2)
def ePr (sz n : Int32) (S : bkS) : bkS := (if S.1 < sz then -20 - S.1 else n, S.2)
def fPr (tp : Nat → Int32) (sz n : Int32) (km : (Nat → Int32) × (Nat → Int32)) : bkS := upS n (gPr tp sz) (ePr sz n) 0 (0, km)
theorem shL_s {c : Int32} (h : sgn c) : 0 ≤ shL c ∧ shL c < 27 ∧ bitO c = 1 <<< (shL c &&& 31) := by
  unfold shL bitO sgn at *
  by_cases e : c = 95
  · subst e; decide
  · have h2 : 97 ≤ c ∧ c ≤ 122 := by grind
    rw [if_neg e, if_pos h2, if_neg e]
    exact ⟨by grind, by grind, rfl⟩
theorem shL_n {c : Int32} (h : ¬ sgn c) : shL c = -1 := by
  unfold shL sgn at *
  rw [if_neg (fun e => h (Or.inr e)), if_neg (fun e => h (Or.inl e))]
theorem sgn_i {c : Int32} : sgn c ↔ ¬ shL c = -1 := by
  constructor
  · intro h e; have := (shL_s h).1; rw [e] at this; exact absurd this (by decide)
  · intro h; exact Classical.byContradiction fun h2 => h (shL_n h2)
theorem rd_sign {c : Int32} (k : Int32) (hk : k = 0 ∨ k = 5) (h : sgn c) : rd1 (fTd k (shL c)) (k + 1) (bitO c) ∧ ¬ fTd k (shL c) = 0 := by
  obtain ⟨h1, h2, h3⟩ := shL_s h
  have g := td_ok (k := k) (v := shL c) ⟨by grind, fun e => by grind, fun _ => ⟨h1, h2⟩⟩
  have e : fMv k (shL c) = bitO c := by
    unfold fMv
    rw [if_neg (by grind), if_neg (by grind), h3]
  rw [e] at g
  exact g
theorem rd_any (k : Int32) (hk : k = 3 ∨ k = 4) : rd1 (fTd k 0) (k + 1) 134217727 ∧ ¬ fTd k 0 = 0 := by
  have g := td_ok (k := k) (v := 0) ⟨by grind, fun e => by grind, fun e => by grind⟩
  have e : fMv k 0 = 134217727 := by
    unfold fMv
    rw [if_pos hk]
  rw [e] at g
  exact g
/-- the two walks over the tape -/
def okRow (n : Int32) (pr bk bm : Nat → Int32) : Prop := ∀ x : Int32, 0 ≤ x → x < n → rd1 (pr x.toNatClampNeg) (bk x.toNatClampNeg + 1) (bm x.toNatClampNeg) ∧ ¬ pr x.toNatClampNeg = 0
theorem okRow_u {p t k y : Int32} {pr bk bm : Nat → Int32} (hp : 0 ≤ p ∧ p < 1000) (h : okRow p pr bk bm) (hr : rd1 t (k + 1) y ∧ ¬ t = 0) : okRow (p + 1) (uI pr p.toNatClampNeg t) (uI bk p.toNatClampNeg k) (uI bm p.toNatClampNeg y) := fun x h0 hx => by
  rw [uI_t h0 hp.1, uI_t h0 hp.1, uI_t h0 hp.1]
  by_cases e : x = p
  · rw [if_pos e, if_pos e, if_pos e]; exact hr
  · rw [if_neg e, if_neg e, if_neg e]; exact h x h0 (by grind)
theorem uI_uI {α : Type} {f : Nat → α} {j : Nat} {v w : α} : uI (uI f j v) j w = uI f j w := by
  funext i; unfold uI; split <;> rfl
theorem parse_rel {bt tp : Nat → Int32} {sz n : Int32} {pr bk bm : Nat → Int32} (hsz : 0 ≤ sz ∧ sz ≤ 200) (hn : 0 ≤ n ∧ n ≤ 24) (ht : ∀ a : Int32, 0 ≤ a → a < sz → tp a.toNatClampNeg = bt a.toNatClampNeg &&& 255 ∧ 0 ≤ tp a.toNatClampNeg ∧ tp a.toNatClampNeg ≤ 255) :
    ((fPc (tpA bt sz) sz n pr).1 = -1 ∧ (fPr tp sz n (bk, bm)).1 = n ∧ okRow n (fPc (tpA bt sz) sz n pr).2 (fPr tp sz n (bk, bm)).2.1 (fPr tp sz n (bk, bm)).2.2) ∨ (0 ≤ (fPc (tpA bt sz) sz n pr).1 ∧ (fPr tp sz n (bk, bm)).1 = -20 - (fPc (tpA bt sz) sz n pr).1 ∧ (fPr tp sz n (bk, bm)).1 < 0) := by
  have hT : ∀ a : Int32, 0 ≤ a → a < sz → tpA bt sz a = tp a.toNatClampNeg := fun a h0 h1 => by
    unfold tpA; rw [if_pos ⟨h0, h1⟩]; exact (ht a h0 h1).1.symm
  have hN : ∀ a : Int32, sz ≤ a → tpA bt sz a = -1 := fun a h1 => by
    unfold tpA; rw [if_neg (by grind)]
  refine upS_rel2 (g := gPc (tpA bt sz)) (g' := gPr tp sz) (e := ePc sz) (e' := ePr sz n) (fun p (S : Int32 × (Nat → Int32)) (S' : bkS) => S'.1 = S.1 ∧ 0 ≤ S.1 ∧ S.1 ≤ sz ∧ okRow p S.2 S'.2.1 S'.2.2) (fun (r : Int32 × (Nat → Int32)) (q : bkS) => (r.1 = -1 ∧ q.1 = n ∧ okRow n r.2 q.2.1 q.2.2) ∨ (0 ≤ r.1 ∧ q.1 = -20 - r.1 ∧ q.1 < 0)) (fun S S' h => ?_) (fun p S S' h0 h1 h => ?_) 0 (0, pr) (0, bk, bm) (by decide) hn.1 ⟨rfl, Int32.le_refl _, hsz.1, fun x x0 x1 => absurd x1 (by grind)⟩
  · obtain ⟨e1, e2, e3, e4⟩ := h
    unfold ePc ePr
    dsimp only
    rw [e1]
    by_cases hc : S.1 < sz
    · rw [if_pos hc, if_pos hc]; exact Or.inr ⟨e2, rfl, by grind⟩
    · rw [if_neg hc, if_neg hc]; exact Or.inl ⟨rfl, rfl, e4⟩
  · obtain ⟨e1, e2, e3, e4⟩ := h
    obtain ⟨at_, pr⟩ := S
    obtain ⟨at', bk, bm⟩ := S'
    dsimp only at e1 e2 e3 e4
    subst e1
    have hp : 0 ≤ p ∧ p < 1000 := by grind
    unfold gPc gPr
    dsimp only
    by_cases hz : at' = sz
    · rw [hN at' (by grind), if_pos hz]
      refine Or.inr ⟨_, _, rfl, rfl, Or.inr ⟨?_, ?_, ?_⟩⟩
      · exact e2
      · dsimp only; rw [hz]
      · dsimp only; grind
    · have hlt : at' < sz := by grind
      rw [hT at' e2 hlt, if_neg hz]
      have hb1 : sz ≤ at' + 1 ∨ at' + 1 < sz := by grind
      have k1 : 0 ≤ at' + 1 := by grind
      have k2 : 0 ≤ at' + 2 := by grind
      have e12 : at' + 1 + 1 = at' + 2 := by grind
      have e13 : at' + 2 + 1 = at' + 3 := by grind
      have s1 : shL (tpA bt sz (at' + 1)) = -1 ↔ (at' + 1 = sz ∨ ¬ ((97 ≤ tp (at' + 1).toNatClampNeg ∧ tp (at' + 1).toNatClampNeg ≤ 122) ∨ tp (at' + 1).toNatClampNeg = 95)) := by
        by_cases h5 : at' + 1 = sz
        · rw [hN _ (by grind)]; exact ⟨fun _ => Or.inl h5, fun _ => by decide⟩
        · rw [hT _ k1 (by grind)]
          have := sgn_i (c := tp (at' + 1).toNatClampNeg)
          unfold sgn at this
          constructor
          · intro h6; exact Or.inr fun h7 => this.mp h7 h6
          · intro h6; exact Classical.byContradiction fun h7 => (h6.resolve_left h5) (this.mpr h7)
      have s2 : ∀ q : Int32, 0 ≤ q → at' + 1 < sz → (¬ tpA bt sz (at' + 2) = q ↔ (at' + 2 = sz ∨ ¬ tp (at' + 2).toNatClampNeg = q)) := fun q hq hlt1 => by
        by_cases h5 : at' + 2 = sz
        · rw [hN _ (by grind)]; exact ⟨fun _ => Or.inl h5, fun _ => by grind⟩
        · rw [hT _ k2 (by grind)]
          constructor
          · intro h6; exact Or.inr h6
          · intro h6; exact h6.resolve_left h5
      rw [e12, e13]
      have sb : bare (tp at'.toNatClampNeg) = (if tp at'.toNatClampNeg = 63 ∨ tp at'.toNatClampNeg = 45 then fTd 3 0 else if tp at'.toNatClampNeg = 35 then fTd 4 0 else if shL (tp at'.toNatClampNeg) = -1 then 0 else fTd 0 (shL (tp at'.toNatClampNeg))) := rfl
      have hsg := sgn_i (c := tp at'.toNatClampNeg)
      have hv := shL_s (c := tp at'.toNatClampNeg)
      have hrs := rd_sign (c := tp at'.toNatClampNeg) 0 (Or.inl rfl)
      generalize hc : tp at'.toNatClampNeg = c at *
      by_cases c60 : c = 60
      · subst c60
        rw [if_pos rfl, if_neg (show ¬ (((97 : Int32) ≤ 60 ∧ (60 : Int32) ≤ 122) ∨ (60 : Int32) = 95) by decide), if_neg (show ¬ ((60 : Int32) = 63 ∨ (60 : Int32) = 45) by decide), if_neg (show ¬ (60 : Int32) = 35 by decide), if_pos rfl]
        by_cases h6 : shL (tpA bt sz (at' + 1)) = -1
        · rw [if_pos h6, if_pos (s1.mp h6)]
          exact Or.inr ⟨_, _, rfl, rfl, Or.inr ⟨k1, rfl, by dsimp only; grind⟩⟩
        · rw [if_neg h6, if_neg (fun h => h6 (s1.mpr h))]
          have hlt1 : at' + 1 < sz := by grind
          have h7 := s2 62 (by decide) hlt1
          by_cases h8 : tpA bt sz (at' + 2) = 62
          · rw [if_neg (fun h => h h8), if_neg (fun h => h7.mpr h h8), uI_uI]
            rw [hT _ k1 hlt1] at h6 ⊢
            exact Or.inl ⟨_, _, rfl, rfl, rfl, by dsimp only; grind, by dsimp only; grind, okRow_u hp e4 (rd_sign 5 (Or.inr rfl) (sgn_i.mpr h6))⟩
          · rw [if_pos h8, if_pos (h7.mp h8)]
            exact Or.inr ⟨_, _, rfl, rfl, Or.inr ⟨k2, rfl, by dsimp only; grind⟩⟩
      · rw [if_neg c60]
        by_cases c91 : c = 91
        · subst c91
          rw [if_pos rfl, if_neg (show ¬ (((97 : Int32) ≤ 91 ∧ (91 : Int32) ≤ 122) ∨ (91 : Int32) = 95) by decide), if_neg (show ¬ ((91 : Int32) = 63 ∨ (91 : Int32) = 45) by decide), if_neg (show ¬ (91 : Int32) = 35 by decide), if_neg (show ¬ (91 : Int32) = 60 by decide), if_pos rfl]
          by_cases h6 : shL (tpA bt sz (at' + 1)) = -1
          · rw [if_pos h6, if_pos (s1.mp h6)]
            exact Or.inr ⟨_, _, rfl, rfl, Or.inr ⟨k1, rfl, by dsimp only; grind⟩⟩
          · rw [if_neg h6, if_neg (fun h => h6 (s1.mpr h))]
            have hlt1 : at' + 1 < sz := by grind
            have h7 := s2 93 (by decide) hlt1
            by_cases h8 : tpA bt sz (at' + 2) = 93
            · rw [if_neg (fun h => h h8), if_neg (fun h => h7.mpr h h8)]
              exact Or.inl ⟨_, _, rfl, rfl, rfl, by dsimp only; grind, by dsimp only; grind, okRow_u hp e4 (rd_any 3 (Or.inl rfl))⟩
            · rw [if_pos h8, if_pos (h7.mp h8)]
              exact Or.inr ⟨_, _, rfl, rfl, Or.inr ⟨k2, rfl, by dsimp only; grind⟩⟩
        · rw [if_neg c91, sb]
          by_cases hs : (97 ≤ c ∧ c ≤ 122) ∨ c = 95
          · have hr := hrs hs
            rw [if_pos hs, if_neg (show ¬ (c = 63 ∨ c = 45) by grind), if_neg (show ¬ c = 35 by grind), if_neg (hsg.mp hs), if_neg hr.2]
            exact Or.inl ⟨_, _, rfl, rfl, rfl, k1, by dsimp only; grind, okRow_u hp e4 hr⟩
          · rw [if_neg hs]
            by_cases c63 : c = 63 ∨ c = 45
            · rw [if_pos c63, if_pos c63, if_neg (rd_any 3 (Or.inl rfl)).2]
              exact Or.inl ⟨_, _, rfl, rfl, rfl, k1, by dsimp only; grind, okRow_u hp e4 (rd_any 3 (Or.inl rfl))⟩
            · rw [if_neg c63, if_neg c63]
              by_cases c35 : c = 35
              · rw [if_pos c35, if_pos c35, if_neg (rd_any 4 (Or.inr rfl)).2]
                exact Or.inl ⟨_, _, rfl, rfl, rfl, k1, by dsimp only; grind, okRow_u hp e4 (rd_any 4 (Or.inr rfl))⟩
              · have hs2 : shL c = -1 := Classical.byContradiction fun h => hs (hsg.mpr h)
                rw [if_neg c35, if_neg c35, if_neg c60, if_neg c91, if_pos hs2, if_pos rfl]
                exact Or.inr ⟨_, _, rfl, rfl, Or.inr ⟨e2, rfl, by dsimp only; grind⟩⟩
