/-! texts and ways: both sides -/
theorem fm_k : ∀ f : Nat, f < 8 → qK (96 + 2 * f) = 9 ∧ qK (96 + 2 * f + 1) = 15 ∧ qSz (96 + 2 * f + 1) = none := by decide +kernel
theorem toN_lt {x n : Int32} (h0 : 0 ≤ x) (h : x < n) : x.toNatClampNeg < n.toNatClampNeg := clampN ⟨h0, h⟩
theorem rtx_F {z : Nat} {N : Nat → Nat} {I : Nat → Nat → Int32} {L : Nat → Nat → Int64} {R : Nat → Nat → Option Nat} (h : RTx z N I L R) : (0 ≤ I 2 5 ∧ I 2 5 ≤ 8) ∧ (∀ f : Int32, 0 ≤ f → f < I 2 5 → R 39 f.toNatClampNeg = some (96 + 2 * f.toNatClampNeg)) ∧ (∀ f : Int32, 0 ≤ f → f < I 2 5 → okF z N I (96 + 2 * f.toNatClampNeg)) ∧ (∀ f : Int32, 0 ≤ f → f < I 2 5 → I 76 f.toNatClampNeg = I (96 + 2 * f.toNatClampNeg) 1 ∧ 0 ≤ I 76 f.toNatClampNeg ∧ I 76 f.toNatClampNeg ≤ 200) ∧ (∀ f i : Int32, 0 ≤ f → f < I 2 5 → 0 ≤ i → i < I 76 f.toNatClampNeg → txt1 (sHd (I (96 + 2 * f.toNatClampNeg) 1) (L (96 + 2 * f.toNatClampNeg + 1)) i) (sTl (I (96 + 2 * f.toNatClampNeg) 1) (L (96 + 2 * f.toNatClampNeg + 1)) i) (I 75 (200 * f + i).toNatClampNeg) (fun k => I 74 (24 * (200 * f + i).toNatClampNeg + k))) := by
  obtain ⟨g1, g2, g3, g4, g5⟩ := h
  have c8 : (I 2 5).toNatClampNeg ≤ 8 := by
    have := Int32.le_iff_toInt_le.mp g3
    rw [show (8 : Int32).toInt = 8 from rfl] at this
    rw [tcn]; omega
  refine ⟨⟨g2, g3⟩, fun f h0 h1 => (g5 _ (toN_lt h0 h1)).1, fun f h0 h1 => ?_, fun f h0 h1 => ?_, fun f i h0 h1 i0' i1 => ?_⟩
  · have hf := toN_lt h0 h1
    obtain ⟨p1, p2, p3, p4, p5, p6⟩ := g5 _ hf
    obtain ⟨k1, k2, k3⟩ := fm_k _ (show f.toNatClampNeg < 8 by omega)
    have e9 : 96 + 2 * f.toNatClampNeg + 1 = 97 + 2 * f.toNatClampNeg := by omega
    refine ⟨k1, k2, k3, by omega, ?_, ?_⟩
    · rw [← p2]; exact ⟨p3, p4⟩
    · rw [← p2, e9, p5]
      have := Int32.le_iff_toInt_le.mp p4
      rw [show (200 : Int32).toInt = 200 from rfl] at this
      rw [tcn]; omega
  · obtain ⟨p1, p2, p3, p4, p5, p6⟩ := g5 _ (toN_lt h0 h1)
    exact ⟨p2, p3, p4⟩
  · have hf := toN_lt h0 h1
    obtain ⟨p1, p2, p3, p4, p5, p6⟩ := g5 _ hf
    have hx := tix (f := f) (i := i) ⟨h0, Int32.lt_of_lt_of_le h1 g3⟩ ⟨i0', Int32.lt_of_lt_of_le i1 p4⟩
    have hs := set_ix (s := I 76 f.toNatClampNeg) (i := i) (n := 2 * (I 76 f.toNatClampNeg).toNatClampNeg) ⟨p3, p4⟩ ⟨Nat.le_refl _, by
      have := Int32.le_iff_toInt_le.mp p4
      rw [show (200 : Int32).toInt = 200 from rfl] at this
      rw [tcn]; omega⟩ ⟨i0', i1⟩
    have e9 : 96 + 2 * f.toNatClampNeg + 1 = 97 + 2 * f.toNatClampNeg := by omega
    unfold sHd sTl
    rw [← p2, if_pos ⟨i0', i1⟩, if_pos ⟨i0', i1⟩, hs.2.2.1, hs.2.2.2, e9, hx.2]
    exact p6 _ (toN_lt i0' i1)
theorem txt_sz {hd tl : Int64} {sz : Int32} {le : Nat → Int32} (h : txt1 hd tl sz le) : 0 ≤ sz ∧ sz ≤ 24 := ⟨h.2.2.2.2.1, h.2.2.2.2.2.1⟩
theorem ltR_n {sz : Int32} {le : Nat → Int32} {k : Int32} (hk : 0 ≤ k) (hle : k < sz → 0 ≤ le k.toNatClampNeg ∧ le k.toNatClampNeg ≤ 26) : (ltR sz le k = -1 ↔ ¬ k < sz) ∧ 0 ≤ onL (ltR sz le k) := by
  unfold ltR onL
  by_cases h : k < sz
  · have hl := hle h
    rw [if_pos ⟨hk, h⟩]
    clear hle
    generalize le k.toNatClampNeg = w at hl ⊢
    by_cases hw : w = 0
    · rw [if_pos hw]; exact ⟨⟨fun h9 => absurd h9 (by decide), fun h9 => absurd h h9⟩, by decide⟩
    · rw [if_neg hw]
      exact ⟨⟨fun h9 => by exfalso; grind, fun h9 => absurd h h9⟩, by split <;> grind⟩
  · rw [if_neg (fun h9 => h h9.2)]
    exact ⟨⟨fun _ => h, fun _ => rfl⟩, by decide⟩
theorem txt_le {hd tl : Int64} {sz : Int32} {le : Nat → Int32} (h : txt1 hd tl sz le) {k : Int32} (hk : 0 ≤ k) (hs : k < sz) : 0 ≤ le k.toNatClampNeg ∧ le k.toNatClampNeg ≤ 26 := by
  have h24 := (txt_sz h).2
  have hlt : k.toNatClampNeg < 24 := clampN (n := 24) ⟨hk, Int32.lt_of_lt_of_le hs h24⟩
  refine (h.2.2.2.2.2.2 k.toNatClampNeg hlt).2 ?_
  rw [nI_t hk]
  exact hs
theorem onL_la {sz le : Nat → Int32} {t k : Int32} (ht : 0 ≤ t ∧ t < 1600) (hk : 0 ≤ k ∧ k < 24) (hle : k < sz t.toNatClampNeg → 0 ≤ le (24 * t.toNatClampNeg + k.toNatClampNeg) ∧ le (24 * t.toNatClampNeg + k.toNatClampNeg) ≤ 26) : onL (ltR (sz t.toNatClampNeg) (fun k => le (24 * t.toNatClampNeg + k)) k) = laR sz le t k := by
  unfold laR onL ltR
  dsimp only
  rw [(tix2 ht hk).2]
  by_cases h : k < sz t.toNatClampNeg
  · have hl := hle h
    rw [if_pos (show 0 ≤ k ∧ k < sz t.toNatClampNeg from ⟨hk.1, h⟩), if_pos h]
    clear hle
    by_cases hw : le (24 * t.toNatClampNeg + k.toNatClampNeg) = 0
    · simp only [if_pos hw]; rfl
    · simp only [if_neg hw]
      rw [if_neg (by grind)]
  · rw [if_neg (show ¬ (0 ≤ k ∧ k < sz t.toNatClampNeg) from fun h9 => h h9.2), if_neg h]
    rfl
theorem fWy_go {lt : Int32 → Int32 → Int32} {my : Nat → Int32} {mf la : Int32 → Int32} {sz w i : Int32} (hw : 1 ≤ w ∧ w ≤ 24) (hsz : 0 ≤ sz ∧ sz ≤ 24) (hla : ∀ k : Int32, 0 ≤ k → k < 24 → onL (lt i k) = la k) (hn : ∀ k : Int32, 0 ≤ k → (lt i k = -1 ↔ ¬ k < sz)) (hm : ∀ p : Int32, 0 ≤ p → p < w → my p.toNatClampNeg = mf p) : fWy lt my w i = fGo mf la sz w := by
  unfold fWy fGo
  by_cases h : sz ≤ w
  · rw [if_neg (fun h9 => h9.2 ((hn w (by grind)).mpr (Int32.not_lt.mpr h)))]
    refine upS_rel2 (fun _ (x y : Int32) => x = 1) (fun (x y : Int32) => x = y) (fun x y hx => by rw [if_pos h]; exact hx) (fun k x y h0 h1 hx => ?_) 0 1 1 (by decide) (by grind) rfl
    unfold gWy gGo
    rw [hla k h0 (by grind), hm k h0 h1]
    by_cases hb : (mf k >>> (la k &&& 31)) &&& 1 = 0
    · simp only [if_pos hb]; exact Or.inr ⟨_, _, rfl, rfl, rfl⟩
    · simp only [if_neg hb]; exact Or.inl ⟨_, _, rfl, rfl, rfl⟩
  · rw [if_pos ⟨by grind, fun h9 => ((hn w (by grind)).mp h9) (by grind)⟩]
    symm
    refine upS_inv (fun _ _ => True) (fun x => x = 0) (fun x _ => if_neg h) (fun k x h0 h1 _ => ?_) 0 1 (by decide) (by grind) trivial
    unfold gGo
    split
    · exact Or.inr ⟨_, rfl, rfl⟩
    · exact Or.inl ⟨_, rfl, trivial⟩
theorem cw_eq {lt : Int32 → Int32 → Int32} {my : Nat → Int32} {go : Int32 → Int32} {w n : Int32} (hn : 0 ≤ n) (h : ∀ i : Int32, 0 ≤ i → i < n → fWy lt my w i = go i) : upF n (gCr go) 0 0 = upF n (gCw lt my w) 0 0 := by
  refine upF_rel (fun _ (x y : Int32) => x = y) (fun k x y h0 h1 e => ?_) 0 0 0 (by decide) hn rfl
  subst e
  unfold gCr gCw
  rw [h k h0 h1]
theorem fw_eq {lt : Int32 → Int32 → Int32} {my : Nat → Int32} {go : Int32 → Int32} {w n t : Int32} (hn : 0 ≤ n ∧ n ≤ 200) (h : ∀ i : Int32, 0 ≤ i → i < n → fWy lt my w i = go i) : (if t < 0 then -1 else upS n (gWr go) (fun _ => -1) 0 t) = upS n (gFw lt my w t) (fun _ => -1) 0 0 := by
  by_cases ht : t < 0
  · rw [if_pos ht]
    symm
    refine upS_inv (fun k c => 0 ≤ c ∧ c ≤ k) (fun x => x = -1) (fun x _ => rfl) (fun k c h0 h1 hc => ?_) 0 0 (by decide) hn.1 ⟨by decide, by decide⟩
    unfold gFw
    by_cases h9 : fWy lt my w k = 0
    · rw [if_pos h9]; exact Or.inl ⟨_, rfl, by grind⟩
    · rw [if_neg h9, if_neg (by grind)]; exact Or.inl ⟨_, rfl, by grind⟩
  · rw [if_neg ht]
    refine upS_rel2 (fun k (x y : Int32) => x = t - y ∧ 0 ≤ y ∧ y ≤ k ∧ y ≤ t) (fun (x y : Int32) => x = y) (fun x y _ => rfl) (fun k x y h0 h1 e => ?_) 0 t 0 (by decide) hn.1 ⟨by grind, by decide, by decide, by grind⟩
    obtain ⟨e1, e2, e3, e4⟩ := e
    unfold gWr gFw
    rw [h k h0 h1]
    by_cases h9 : go k = 0
    · rw [if_pos h9, if_pos h9]; exact Or.inl ⟨_, _, rfl, rfl, e1, e2, by grind, e4⟩
    · rw [if_neg h9, if_neg h9]
      by_cases h8 : y = t
      · rw [if_pos (by rw [e1, h8]; grind), if_pos h8]; exact Or.inr ⟨_, _, rfl, rfl, rfl⟩
      · rw [if_neg (by rw [e1]; grind), if_neg h8]; exact Or.inl ⟨_, _, rfl, rfl, by rw [e1]; grind, by grind, by grind, by grind⟩
theorem ft_eq {lt : Int32 → Int32 → Int32} {my : Nat → Int32} {go : Int32 → Int32} {w n : Int32} (hn : 0 ≤ n ∧ n ≤ 200) (h : ∀ i : Int32, 0 ≤ i → i < n → fWy lt my w i = go i) : upS n (gFw lt my w 0) (fun _ => -1) 0 0 = -1 ↔ ¬ 0 < upF n (gCr go) 0 0 := by
  have hp : ∀ k : Int32, ∀ c : Int32, 0 ≤ k → k ≤ n → 0 < c ∧ c ≤ k → 0 < upF n (gCr go) k c := fun k c k0 k1 hc => by
    refine (upF_inv (n := n) (g := gCr go) (fun k c => 0 < c ∧ c ≤ k) (fun k c h0 h1 hc => ?_) k c k0 k1 hc).1
    unfold gCr
    split <;> grind
  have hr := upS_rel (n := n) (g := gFw lt my w 0) (e := fun _ => -1) (g' := fun k x => (.inl (gCr go k x) : Sum Int32 Int32)) (e' := id) (fun k (x y : Int32) => x = 0 ∧ y = 0 ∧ 0 ≤ k ∧ k ≤ n) (fun (x y : Int32) => x = -1 ↔ ¬ 0 < y) (fun k x y hk hP => by
      obtain ⟨rfl, rfl, _, _⟩ := hP
      exact ⟨fun _ => by decide, fun _ => rfl⟩) (fun k x y hk hP => by
      obtain ⟨rfl, rfl, k0, k1⟩ := hP
      have e1 : gFw lt my w 0 k 0 = (if go k = 0 then .inl 0 else .inr k) := by
        unfold gFw
        rw [h k k0 hk]
        split
        · rfl
        · rw [if_pos rfl]
      have e2 : gCr go k 0 = if go k = 0 then 0 else 1 := by
        unfold gCr
        split <;> rfl
      rw [e1, e2]
      by_cases h9 : go k = 0
      · rw [if_pos h9, if_pos h9]; exact ⟨rfl, rfl, by grind, by grind⟩
      · rw [if_neg h9, if_neg h9]
        intro m b hb hmk
        have hq := hp (k + 1) 1 (by grind) (by grind) ⟨by decide, by grind⟩
        have hb2 : b = upF n (gCr go) (k + 1) 1 := by rw [hb, hmk]; rfl
        rw [hb2]
        exact ⟨fun h8 => by exfalso; grind, fun h8 => absurd hq h8⟩) 0 0 0 ⟨rfl, rfl, by decide, hn.1⟩
  exact hr
