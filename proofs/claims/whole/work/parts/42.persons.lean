/-! persons -/
theorem lg_eq {a b : Int64} : lg_cmp a b = 0 ↔ a = b := by
  unfold lg_cmp
  split
  · rename_i h
    refine ⟨fun h2 => absurd h2 (by decide), fun h2 => ?_⟩
    subst h2
    rw [gt_iff_lt, Int64.lt_iff_toInt_lt] at h
    omega
  · split
    · rename_i h1 h2
      exact ⟨fun _ => h2, fun _ => rfl⟩
    · rename_i h1 h2
      exact ⟨fun h => absurd h (by decide), fun h => absurd h h2⟩
theorem lg_gt {a b : Int64} : 0 < lg_cmp a b ↔ b < a := by
  unfold lg_cmp
  split
  · rename_i h
    exact ⟨fun _ => h, fun _ => by decide⟩
  · rename_i h
    refine ⟨fun h2 => ?_, fun h2 => absurd h2 h⟩
    split at h2 <;> exact absurd h2 (by decide)
theorem lg_le {a b : Int64} : lg_cmp a b ≤ 0 ↔ ¬ b < a := by
  rw [← lg_gt]
  exact Int32.not_lt.symm
def pOne (nm fa : Nat → Int64) (st E U : Nat → Int32) (a b : Int32) : Bool := decide (nm a.toNatClampNeg = nm b.toNatClampNeg ∧ (fa a.toNatClampNeg = fa b.toNatClampNeg ∨ fa a.toNatClampNeg = 0 ∨ fa b.toNatClampNeg = 0) ∧ E (st a.toNatClampNeg).toNatClampNeg - U (st b.toNatClampNeg).toNatClampNeg < 60 ∧ E (st b.toNatClampNeg).toNatClampNeg - U (st a.toNatClampNeg).toNatClampNeg < 60)
theorem pOne_comm {nm fa : Nat → Int64} {st E U : Nat → Int32} {a b : Int32} : pOne nm fa st E U a b = pOne nm fa st E U b a := by
  unfold pOne
  rw [decide_eq_decide]
  constructor <;> (rintro ⟨h1, h2, h3, h4⟩; exact ⟨h1.symm, by rcases h2 with h | h | h; exact Or.inl h.symm; exact Or.inr (Or.inr h); exact Or.inr (Or.inl h), h4, h3⟩)
def pAh (st E U : Nat → Int32) (f c : Int32) : Bool := decide (E (st c.toNatClampNeg).toNatClampNeg - U (st f.toNatClampNeg).toNatClampNeg ≤ 60 ∧ 15 ≤ U (st c.toNatClampNeg).toNatClampNeg - E (st f.toNatClampNeg).toNatClampNeg)
def gBel (one : Int32 → Int32 → Bool) (gr : Nat → Int32) (p g k _x : Int32) : Sum Int32 Int32 := if gr k.toNatClampNeg = g ∧ one p k = false then .inr 0 else .inl 1
/-- whether a person may be one with all those ahead of it in a group -/
def fBel (one : Int32 → Int32 → Bool) (gr : Nat → Int32) (p g : Int32) : Int32 := upS p (gBel one gr p g) id 0 1
def gGrp (sp : Bool) (one : Int32 → Int32 → Bool) (gr : Nat → Int32) (p k _x : Int32) : Sum Int32 Int32 := if sp = true ∧ fBel one gr p k = 1 then .inr k else .inl (k + 1)
def fGrp (sp : Bool) (one : Int32 → Int32 → Bool) (gr : Nat → Int32) (p c : Int32) : Int32 := upS c (gGrp sp one gr p) id 0 0
def gSrt (sp : Bool) (one : Int32 → Int32 → Bool) (k : Int32) (S : (Nat → Int32) × Int32) : (Nat → Int32) × Int32 := (uI S.1 k.toNatClampNeg (fGrp sp one S.1 k S.2), if S.2 < fGrp sp one S.1 k S.2 + 1 then fGrp sp one S.1 k S.2 + 1 else S.2)
def fSrt (sp : Bool) (one : Int32 → Int32 → Bool) (n : Int32) (gr : Nat → Int32) : (Nat → Int32) × Int32 := upF n (gSrt sp one) 0 (gr, 0)
def gFa (nm fa : Nat → Int64) (st E U : Nat → Int32) (p k _x : Int32) : Sum Int32 Int32 := if ¬ k = p ∧ nm k.toNatClampNeg = fa p.toNatClampNeg ∧ pAh st E U k p = true then .inr k else .inl (-1)
def fFa (nm fa : Nat → Int64) (st E U : Nat → Int32) (n p : Int32) : Int32 := upS n (gFa nm fa st E U p) id 0 (-1)
theorem fBel_eq {one one' : Int32 → Int32 → Bool} {gr gr' : Nat → Int32} {p g : Int32} (hp : 0 ≤ p) (ho : ∀ k : Int32, 0 ≤ k → k < p → one' p k = one p k ∧ gr' k.toNatClampNeg = gr k.toNatClampNeg) : fBel one' gr' p g = fBel one gr p g := by
  unfold fBel
  refine upS_rel2 (fun _ (x y : Int32) => x = y) (fun (x y : Int32) => x = y) (fun x y h => h) (fun k x y h0 h1 h => ?_) 0 1 1 (by decide) hp rfl
  obtain ⟨e1, e2⟩ := ho k h0 h1
  unfold gBel
  rw [e1, e2]
  by_cases hc : gr k.toNatClampNeg = g ∧ one p k = false
  · rw [if_pos hc]; exact Or.inr ⟨_, _, rfl, rfl, rfl⟩
  · rw [if_neg hc]; exact Or.inl ⟨_, _, rfl, rfl, rfl⟩
theorem fBel01 {one : Int32 → Int32 → Bool} {gr : Nat → Int32} {p g : Int32} (hp : 0 ≤ p) : fBel one gr p g = 0 ∨ fBel one gr p g = 1 := by
  refine upS_inv (fun _ x => x = 1) (fun x => x = 0 ∨ x = 1) (fun x h => Or.inr h) (fun k x h0 h1 h => ?_) 0 1 (by decide) hp rfl
  unfold gBel
  split
  · exact Or.inr ⟨_, rfl, Or.inl rfl⟩
  · exact Or.inl ⟨_, rfl, rfl⟩
theorem fGrp_eq {sp : Bool} {one one' : Int32 → Int32 → Bool} {gr gr' : Nat → Int32} {p c : Int32} (hp : 0 ≤ p) (hc0 : 0 ≤ c) (ho : sp = true → ∀ k : Int32, 0 ≤ k → k < p → one' p k = one p k ∧ gr' k.toNatClampNeg = gr k.toNatClampNeg) : fGrp sp one' gr' p c = fGrp sp one gr p c := by
  unfold fGrp
  refine upS_rel2 (fun _ (x y : Int32) => x = y) (fun (x y : Int32) => x = y) (fun x y h => h) (fun k x y h0 h1 h => ?_) 0 0 0 (by decide) hc0 rfl
  unfold gGrp
  by_cases hs : sp = true
  · rw [fBel_eq hp (ho hs)]
    by_cases hc : sp = true ∧ fBel one gr p k = 1
    · rw [if_pos hc]; exact Or.inr ⟨_, _, rfl, rfl, rfl⟩
    · rw [if_neg hc]; exact Or.inl ⟨_, _, rfl, rfl, rfl⟩
  · rw [if_neg (fun h => hs h.1), if_neg (fun h => hs h.1)]; exact Or.inl ⟨_, _, rfl, rfl, rfl⟩
theorem fGrp_r {sp : Bool} {one : Int32 → Int32 → Bool} {gr : Nat → Int32} {p c : Int32} (hc : 0 ≤ c) : 0 ≤ fGrp sp one gr p c ∧ fGrp sp one gr p c ≤ c := by
  refine upS_inv (fun k x => x = k) (fun x => 0 ≤ x ∧ x ≤ c) (fun x h => by subst h; exact ⟨hc, Int32.le_refl _⟩) (fun k x h0 h1 h => ?_) 0 0 (by decide) hc rfl
  unfold gGrp
  by_cases hq : sp = true ∧ fBel one gr p k = 1
  · rw [if_pos hq]; exact Or.inr ⟨_, rfl, h0, by grind⟩
  · rw [if_neg hq]; exact Or.inl ⟨_, rfl, rfl⟩
theorem fSrt_eq {sp : Bool} {one one' : Int32 → Int32 → Bool} {gr gr' : Nat → Int32} {n : Int32} (hn : 0 ≤ n ∧ n ≤ 12) (ho : sp = true → ∀ a b : Int32, 0 ≤ a → a < n → 0 ≤ b → b < n → one' a b = one a b) : (fSrt sp one' n gr').2 = (fSrt sp one n gr).2 ∧ (∀ k : Int32, 0 ≤ k → k < n → (fSrt sp one' n gr').1 k.toNatClampNeg = (fSrt sp one n gr).1 k.toNatClampNeg) := by
  have h := upF_rel (n := n) (g := gSrt sp one') (g' := gSrt sp one) (fun k (x y : (Nat → Int32) × Int32) => x.2 = y.2 ∧ (0 ≤ y.2 ∧ y.2 ≤ k) ∧ ∀ j : Int32, 0 ≤ j → j < k → x.1 j.toNatClampNeg = y.1 j.toNatClampNeg) (fun k x y h0 hk hh => ?_) 0 (gr', 0) (gr, 0) (by decide) hn.1 ⟨rfl, ⟨Int32.le_refl _, Int32.le_refl _⟩, fun j h0 hj => absurd hj (by grind)⟩
  · exact ⟨h.1, h.2.2⟩
  · obtain ⟨e1, e2, e3⟩ := hh
    have eg : fGrp sp one' x.1 k x.2 = fGrp sp one y.1 k y.2 := by
      rw [e1]
      exact fGrp_eq h0 e2.1 (fun hs j j0 jk => ⟨ho hs k j h0 hk j0 (Int32.lt_trans jk hk), e3 j j0 jk⟩)
    have hr := fGrp_r (sp := sp) (one := one) (gr := y.1) (p := k) e2.1
    unfold gSrt
    dsimp only
    rw [eg, e1]
    refine ⟨rfl, ?_, fun j j0 jk => ?_⟩
    · generalize fGrp sp one y.1 k y.2 = g at *
      split <;> grind
    · rw [uI_t j0 h0, uI_t j0 h0]
      by_cases e : j = k
      · rw [if_pos e, if_pos e]
      · rw [if_neg e, if_neg e]; exact e3 j j0 (by grind)
/-- words told as numbers -/
def wd : Nat → Int64 → Bool
  | 0, w => decide (w = 0)
  | m + 1, w => if 0 < w then (if w - w / 27 * 27 = 0 then false else wd m (w / 27)) else decide (w = 0)
def isW (v : Int64) : Bool := if 0 < v then wd 7 v else false
theorem wd_s (m : Nat) (w : Int64) : wd (m + 1) w = if 0 < w then (if w - w / 27 * 27 = 0 then false else wd m (w / 27)) else decide (w = 0) := rfl
theorem wd_np {w : Int64} (h : ¬ 0 < w) : ∀ m, wd m w = decide (w = 0) := by
  intro m
  cases m with
  | zero => rfl
  | succ m => rw [wd_s, if_neg h]
theorem div27 {w : Int64} (h : 0 < w) : (w / 27).toInt = w.toInt / 27 ∧ 0 < w.toInt := by
  have h1 := Int64.lt_iff_toInt_lt.mp h
  rw [show (0 : Int64).toInt = 0 from rfl] at h1
  have h2 := Int64.toInt_lt w
  refine ⟨?_, h1⟩
  rw [Int64.toInt_div, show (27 : Int64).toInt = 27 from rfl, Int.tdiv_eq_ediv_of_nonneg (by omega)]
  exact Int.bmod_eq_of_le (by omega) (by omega)
theorem c_X4_mayBeOne {d z : Nat} {N : Nat → Nat} {I : Nat → Nat → Int32} {L : Nat → Nat → Int64} {R : Nat → Nat → Option Nat} {Q : qP} {a : Int32} {b : Int32} (hp : 0 ≤ I 54 5 ∧ I 54 5 ≤ 12) (hst_ : ∀ x : Int32, 0 ≤ x → x < I 54 5 → 0 ≤ I 57 x.toNatClampNeg ∧ I 57 x.toNatClampNeg < 12) (ha : 0 ≤ a ∧ a < I 54 5) (hb : 0 ≤ b ∧ b < I 54 5) (h : ∀ v : Int32, v = (if pOne (L 55) (L 56) (I 57) (I 49) (I 50) a b = true then 1 else 0) → Q (some (.int v)) (z, N, I, L, R)) : qWP (d + 2) 55 [.ref 54, .int a, .int b] (z, N, I, L, R) Q := by
  refine qWP_of m_X4_mayBeOne rfl rfl [(0, .ref 54), (1, .int a), (2, .int b)] rfl ?_
  refine qJ_run (qWP_mono _) [] 400 ?_
  refine ⟨⟨Nat.le_refl _, Nat.le_refl _⟩, ?_⟩
  refine c_X4_has hp fun v1 hv1 => ?_
  refine ⟨fun (c1 : v1 = 0) => ?_, fun (c1 : ¬ v1 = 0) => ?_⟩
  · refine ⟨by first | exact Or.inl rfl | exact Or.inr rfl | (clear h; grind), ?_⟩
    change Q (some (.int 0)) (z, N, I, L, R)
    refine h _ ?_
    have h8 := hst_ a ha.1 ha.2
    have h9 := hst_ b hb.1 hb.2
    (try simp only [lg_eq] at *)
    unfold pOne
    (try rw [if_pos h8] at *)
    (try rw [if_pos h9] at *)
    clear h
    simp only [decide_eq_true_eq]
    grind
  · refine ⟨⟨Nat.le_refl _, Nat.le_refl _⟩, ?_⟩
    refine c_X4_has hp fun v2 hv2 => ?_
    refine ⟨fun (c2 : v2 = 0) => ?_, fun (c2 : ¬ v2 = 0) => ?_⟩
    · refine ⟨by first | exact Or.inl rfl | exact Or.inr rfl | (clear h; grind), ?_⟩
      change Q (some (.int 0)) (z, N, I, L, R)
      refine h _ ?_
      have h8 := hst_ a ha.1 ha.2
      have h9 := hst_ b hb.1 hb.2
      (try simp only [lg_eq] at *)
      unfold pOne
      (try rw [if_pos h8] at *)
      (try rw [if_pos h9] at *)
      clear h
      simp only [decide_eq_true_eq]
      grind
    · refine ⟨?_, ?_⟩
      · exact vb (x := a) (N := 12) 12 (by decide) (by clear h; grind) (by clear h; grind)
      refine ⟨?_, ?_⟩
      · exact vb (x := b) (N := 12) 12 (by decide) (by clear h; grind) (by clear h; grind)
      refine ⟨fun (c3 : (lg_cmp (L 55 ((a).toNatClampNeg)) (L 55 ((b).toNatClampNeg))) = 0) => ?_, fun (c3 : ¬ (lg_cmp (L 55 ((a).toNatClampNeg)) (L 55 ((b).toNatClampNeg))) = 0) => ?_⟩
      · refine ⟨?_, ?_⟩
        · exact vb (x := a) (N := 12) 12 (by decide) (by clear h; grind) (by clear h; grind)
        refine ⟨?_, ?_⟩
        · exact vb (x := b) (N := 12) 12 (by decide) (by clear h; grind) (by clear h; grind)
        refine ⟨fun (c4 : (lg_cmp (L 56 ((a).toNatClampNeg)) (L 56 ((b).toNatClampNeg))) = 0) => ?_, fun (c4 : ¬ (lg_cmp (L 56 ((a).toNatClampNeg)) (L 56 ((b).toNatClampNeg))) = 0) => ?_⟩
        · refine ⟨?_, ?_⟩
          · exact vb (x := a) (N := 12) 12 (by decide) (by clear h; grind) (by clear h; grind)
          refine ⟨⟨Nat.le_refl _, Nat.le_refl _⟩, ?_⟩
          refine c_X0_earliest fun v3 hv3 => ?_
          refine ⟨?_, ?_⟩
          · exact vb (x := b) (N := 12) 12 (by decide) (by clear h; grind) (by clear h; grind)
          refine ⟨⟨Nat.le_refl _, Nat.le_refl _⟩, ?_⟩
          refine c_X0_latest fun v4 hv4 => ?_
          refine ⟨?_, ?_⟩
          · exact vb (x := b) (N := 12) 12 (by decide) (by clear h; grind) (by clear h; grind)
          refine ⟨⟨Nat.le_refl _, Nat.le_refl _⟩, ?_⟩
          refine c_X0_earliest fun v5 hv5 => ?_
          refine ⟨?_, ?_⟩
          · exact vb (x := a) (N := 12) 12 (by decide) (by clear h; grind) (by clear h; grind)
          refine ⟨⟨Nat.le_refl _, Nat.le_refl _⟩, ?_⟩
          refine c_X0_latest fun v6 hv6 => ?_
          refine ⟨fun (c5 : 60 ≤ (v3 - v4)) => ?_, fun (c5 : ¬ 60 ≤ (v3 - v4)) => ?_⟩
          · refine ⟨by first | exact Or.inl rfl | exact Or.inr rfl | (clear h; grind), ?_⟩
            change Q (some (.int 0)) (z, N, I, L, R)
            refine h _ ?_
            have h8 := hst_ a ha.1 ha.2
            have h9 := hst_ b hb.1 hb.2
            (try simp only [lg_eq] at *)
            unfold pOne
            (try rw [if_pos h8] at *)
            (try rw [if_pos h9] at *)
            clear h
            simp only [decide_eq_true_eq]
            grind
          · refine ⟨fun (c6 : 60 ≤ (v5 - v6)) => ?_, fun (c6 : ¬ 60 ≤ (v5 - v6)) => ?_⟩
            · refine ⟨by first | exact Or.inl rfl | exact Or.inr rfl | (clear h; grind), ?_⟩
              change Q (some (.int 0)) (z, N, I, L, R)
              refine h _ ?_
              have h8 := hst_ a ha.1 ha.2
              have h9 := hst_ b hb.1 hb.2
              (try simp only [lg_eq] at *)
              unfold pOne
              (try rw [if_pos h8] at *)
              (try rw [if_pos h9] at *)
              clear h
              simp only [decide_eq_true_eq]
              grind
            · refine ⟨by first | exact Or.inl rfl | exact Or.inr rfl | (clear h; grind), ?_⟩
              change Q (some (.int 1)) (z, N, I, L, R)
              refine h _ ?_
              have h8 := hst_ a ha.1 ha.2
              have h9 := hst_ b hb.1 hb.2
              (try simp only [lg_eq] at *)
              unfold pOne
              (try rw [if_pos h8] at *)
              (try rw [if_pos h9] at *)
              clear h
              simp only [decide_eq_true_eq]
              grind
        · refine ⟨?_, ?_⟩
          · exact vb (x := a) (N := 12) 12 (by decide) (by clear h; grind) (by clear h; grind)
          refine ⟨fun (c7 : (lg_cmp (L 56 ((a).toNatClampNeg)) 0) = 0) => ?_, fun (c7 : ¬ (lg_cmp (L 56 ((a).toNatClampNeg)) 0) = 0) => ?_⟩
          · refine ⟨?_, ?_⟩
            · exact vb (x := a) (N := 12) 12 (by decide) (by clear h; grind) (by clear h; grind)
            refine ⟨⟨Nat.le_refl _, Nat.le_refl _⟩, ?_⟩
            refine c_X0_earliest fun v7 hv7 => ?_
            refine ⟨?_, ?_⟩
            · exact vb (x := b) (N := 12) 12 (by decide) (by clear h; grind) (by clear h; grind)
            refine ⟨⟨Nat.le_refl _, Nat.le_refl _⟩, ?_⟩
            refine c_X0_latest fun v8 hv8 => ?_
            refine ⟨?_, ?_⟩
            · exact vb (x := b) (N := 12) 12 (by decide) (by clear h; grind) (by clear h; grind)
            refine ⟨⟨Nat.le_refl _, Nat.le_refl _⟩, ?_⟩
            refine c_X0_earliest fun v9 hv9 => ?_
            refine ⟨?_, ?_⟩
            · exact vb (x := a) (N := 12) 12 (by decide) (by clear h; grind) (by clear h; grind)
            refine ⟨⟨Nat.le_refl _, Nat.le_refl _⟩, ?_⟩
            refine c_X0_latest fun v10 hv10 => ?_
            refine ⟨fun (c8 : 60 ≤ (v7 - v8)) => ?_, fun (c8 : ¬ 60 ≤ (v7 - v8)) => ?_⟩
            · refine ⟨by first | exact Or.inl rfl | exact Or.inr rfl | (clear h; grind), ?_⟩
              change Q (some (.int 0)) (z, N, I, L, R)
              refine h _ ?_
              have h8 := hst_ a ha.1 ha.2
              have h9 := hst_ b hb.1 hb.2
              (try simp only [lg_eq] at *)
              unfold pOne
              (try rw [if_pos h8] at *)
              (try rw [if_pos h9] at *)
              clear h
              simp only [decide_eq_true_eq]
              grind
            · refine ⟨fun (c9 : 60 ≤ (v9 - v10)) => ?_, fun (c9 : ¬ 60 ≤ (v9 - v10)) => ?_⟩
              · refine ⟨by first | exact Or.inl rfl | exact Or.inr rfl | (clear h; grind), ?_⟩
                change Q (some (.int 0)) (z, N, I, L, R)
                refine h _ ?_
                have h8 := hst_ a ha.1 ha.2
                have h9 := hst_ b hb.1 hb.2
                (try simp only [lg_eq] at *)
                unfold pOne
                (try rw [if_pos h8] at *)
                (try rw [if_pos h9] at *)
                clear h
                simp only [decide_eq_true_eq]
                grind
              · refine ⟨by first | exact Or.inl rfl | exact Or.inr rfl | (clear h; grind), ?_⟩
                change Q (some (.int 1)) (z, N, I, L, R)
                refine h _ ?_
                have h8 := hst_ a ha.1 ha.2
                have h9 := hst_ b hb.1 hb.2
                (try simp only [lg_eq] at *)
                unfold pOne
                (try rw [if_pos h8] at *)
                (try rw [if_pos h9] at *)
                clear h
                simp only [decide_eq_true_eq]
                grind
          · refine ⟨?_, ?_⟩
            · exact vb (x := b) (N := 12) 12 (by decide) (by clear h; grind) (by clear h; grind)
            refine ⟨fun (c10 : (lg_cmp (L 56 ((b).toNatClampNeg)) 0) = 0) => ?_, fun (c10 : ¬ (lg_cmp (L 56 ((b).toNatClampNeg)) 0) = 0) => ?_⟩
            · refine ⟨?_, ?_⟩
              · exact vb (x := a) (N := 12) 12 (by decide) (by clear h; grind) (by clear h; grind)
              refine ⟨⟨Nat.le_refl _, Nat.le_refl _⟩, ?_⟩
              refine c_X0_earliest fun v11 hv11 => ?_
              refine ⟨?_, ?_⟩
              · exact vb (x := b) (N := 12) 12 (by decide) (by clear h; grind) (by clear h; grind)
              refine ⟨⟨Nat.le_refl _, Nat.le_refl _⟩, ?_⟩
              refine c_X0_latest fun v12 hv12 => ?_
              refine ⟨?_, ?_⟩
              · exact vb (x := b) (N := 12) 12 (by decide) (by clear h; grind) (by clear h; grind)
              refine ⟨⟨Nat.le_refl _, Nat.le_refl _⟩, ?_⟩
              refine c_X0_earliest fun v13 hv13 => ?_
              refine ⟨?_, ?_⟩
              · exact vb (x := a) (N := 12) 12 (by decide) (by clear h; grind) (by clear h; grind)
              refine ⟨⟨Nat.le_refl _, Nat.le_refl _⟩, ?_⟩
              refine c_X0_latest fun v14 hv14 => ?_
              refine ⟨fun (c11 : 60 ≤ (v11 - v12)) => ?_, fun (c11 : ¬ 60 ≤ (v11 - v12)) => ?_⟩
              · refine ⟨by first | exact Or.inl rfl | exact Or.inr rfl | (clear h; grind), ?_⟩
                change Q (some (.int 0)) (z, N, I, L, R)
                refine h _ ?_
                have h8 := hst_ a ha.1 ha.2
                have h9 := hst_ b hb.1 hb.2
                (try simp only [lg_eq] at *)
                unfold pOne
                (try rw [if_pos h8] at *)
                (try rw [if_pos h9] at *)
                clear h
                simp only [decide_eq_true_eq]
                grind
              · refine ⟨fun (c12 : 60 ≤ (v13 - v14)) => ?_, fun (c12 : ¬ 60 ≤ (v13 - v14)) => ?_⟩
                · refine ⟨by first | exact Or.inl rfl | exact Or.inr rfl | (clear h; grind), ?_⟩
                  change Q (some (.int 0)) (z, N, I, L, R)
                  refine h _ ?_
                  have h8 := hst_ a ha.1 ha.2
                  have h9 := hst_ b hb.1 hb.2
                  (try simp only [lg_eq] at *)
                  unfold pOne
                  (try rw [if_pos h8] at *)
                  (try rw [if_pos h9] at *)
                  clear h
                  simp only [decide_eq_true_eq]
                  grind
                · refine ⟨by first | exact Or.inl rfl | exact Or.inr rfl | (clear h; grind), ?_⟩
                  change Q (some (.int 1)) (z, N, I, L, R)
                  refine h _ ?_
                  have h8 := hst_ a ha.1 ha.2
                  have h9 := hst_ b hb.1 hb.2
                  (try simp only [lg_eq] at *)
                  unfold pOne
                  (try rw [if_pos h8] at *)
                  (try rw [if_pos h9] at *)
                  clear h
                  simp only [decide_eq_true_eq]
                  grind
            · refine ⟨by first | exact Or.inl rfl | exact Or.inr rfl | (clear h; grind), ?_⟩
              change Q (some (.int 0)) (z, N, I, L, R)
              refine h _ ?_
              have h8 := hst_ a ha.1 ha.2
              have h9 := hst_ b hb.1 hb.2
              (try simp only [lg_eq] at *)
              unfold pOne
              (try rw [if_pos h8] at *)
              (try rw [if_pos h9] at *)
              clear h
              simp only [decide_eq_true_eq]
              grind
      · refine ⟨by first | exact Or.inl rfl | exact Or.inr rfl | (clear h; grind), ?_⟩
        change Q (some (.int 0)) (z, N, I, L, R)
        refine h _ ?_
        have h8 := hst_ a ha.1 ha.2
        have h9 := hst_ b hb.1 hb.2
        (try simp only [lg_eq] at *)
        unfold pOne
        (try rw [if_pos h8] at *)
        (try rw [if_pos h9] at *)
        clear h
        simp only [decide_eq_true_eq]
        grind
theorem c_X4_isAhead {d z : Nat} {N : Nat → Nat} {I : Nat → Nat → Int32} {L : Nat → Nat → Int64} {R : Nat → Nat → Option Nat} {Q : qP} {a : Int32} {b : Int32} (hp : 0 ≤ I 54 5 ∧ I 54 5 ≤ 12) (hst_ : ∀ x : Int32, 0 ≤ x → x < I 54 5 → 0 ≤ I 57 x.toNatClampNeg ∧ I 57 x.toNatClampNeg < 12) (ha : 0 ≤ a ∧ a < I 54 5) (hb : 0 ≤ b ∧ b < I 54 5) (h : ∀ v : Int32, v = (if pAh (I 57) (I 49) (I 50) a b = true then 1 else 0) → Q (some (.int v)) (z, N, I, L, R)) : qWP (d + 2) 60 [.ref 54, .int a, .int b] (z, N, I, L, R) Q := by
  refine qWP_of m_X4_isAhead rfl rfl [(0, .ref 54), (1, .int a), (2, .int b)] rfl ?_
  refine qJ_run (qWP_mono _) [] 400 ?_
  refine ⟨⟨Nat.le_refl _, Nat.le_refl _⟩, ?_⟩
  refine c_X4_has hp fun v1 hv1 => ?_
  refine ⟨fun (c1 : v1 = 0) => ?_, fun (c1 : ¬ v1 = 0) => ?_⟩
  · refine ⟨by first | exact Or.inl rfl | exact Or.inr rfl | (clear h; grind), ?_⟩
    change Q (some (.int 0)) (z, N, I, L, R)
    refine h _ ?_
    have h8 := hst_ a ha.1 ha.2
    have h9 := hst_ b hb.1 hb.2
    (try simp only [lg_eq] at *)
    unfold pAh
    (try rw [if_pos h8] at *)
    (try rw [if_pos h9] at *)
    clear h
    simp only [decide_eq_true_eq]
    grind
  · refine ⟨⟨Nat.le_refl _, Nat.le_refl _⟩, ?_⟩
    refine c_X4_has hp fun v2 hv2 => ?_
    refine ⟨fun (c2 : ¬ v2 = 0) => ?_, fun (c2 : v2 = 0) => ?_⟩
    · refine ⟨?_, ?_⟩
      · exact vb (x := b) (N := 12) 12 (by decide) (by clear h; grind) (by clear h; grind)
      refine ⟨⟨Nat.le_refl _, Nat.le_refl _⟩, ?_⟩
      refine c_X0_earliest fun v3 hv3 => ?_
      refine ⟨?_, ?_⟩
      · exact vb (x := a) (N := 12) 12 (by decide) (by clear h; grind) (by clear h; grind)
      refine ⟨⟨Nat.le_refl _, Nat.le_refl _⟩, ?_⟩
      refine c_X0_latest fun v4 hv4 => ?_
      refine ⟨?_, ?_⟩
      · exact vb (x := b) (N := 12) 12 (by decide) (by clear h; grind) (by clear h; grind)
      refine ⟨⟨Nat.le_refl _, Nat.le_refl _⟩, ?_⟩
      refine c_X0_latest fun v5 hv5 => ?_
      refine ⟨?_, ?_⟩
      · exact vb (x := a) (N := 12) 12 (by decide) (by clear h; grind) (by clear h; grind)
      refine ⟨⟨Nat.le_refl _, Nat.le_refl _⟩, ?_⟩
      refine c_X0_earliest fun v6 hv6 => ?_
      refine ⟨fun (c3 : 60 < (v3 - v4)) => ?_, fun (c3 : ¬ 60 < (v3 - v4)) => ?_⟩
      · refine ⟨by first | exact Or.inl rfl | exact Or.inr rfl | (clear h; grind), ?_⟩
        change Q (some (.int 0)) (z, N, I, L, R)
        refine h _ ?_
        have h8 := hst_ a ha.1 ha.2
        have h9 := hst_ b hb.1 hb.2
        (try simp only [lg_eq] at *)
        unfold pAh
        (try rw [if_pos h8] at *)
        (try rw [if_pos h9] at *)
        clear h
        simp only [decide_eq_true_eq]
        grind
      · refine ⟨fun (c4 : (v5 - v6) < 15) => ?_, fun (c4 : ¬ (v5 - v6) < 15) => ?_⟩
        · refine ⟨by first | exact Or.inl rfl | exact Or.inr rfl | (clear h; grind), ?_⟩
          change Q (some (.int 0)) (z, N, I, L, R)
          refine h _ ?_
          have h8 := hst_ a ha.1 ha.2
          have h9 := hst_ b hb.1 hb.2
          (try simp only [lg_eq] at *)
          unfold pAh
          (try rw [if_pos h8] at *)
          (try rw [if_pos h9] at *)
          clear h
          simp only [decide_eq_true_eq]
          grind
        · refine ⟨by first | exact Or.inl rfl | exact Or.inr rfl | (clear h; grind), ?_⟩
          change Q (some (.int 1)) (z, N, I, L, R)
          refine h _ ?_
          have h8 := hst_ a ha.1 ha.2
          have h9 := hst_ b hb.1 hb.2
          (try simp only [lg_eq] at *)
          unfold pAh
          (try rw [if_pos h8] at *)
          (try rw [if_pos h9] at *)
          clear h
          simp only [decide_eq_true_eq]
          grind
    · refine ⟨by first | exact Or.inl rfl | exact Or.inr rfl | (clear h; grind), ?_⟩
      change Q (some (.int 0)) (z, N, I, L, R)
      refine h _ ?_
      have h8 := hst_ a ha.1 ha.2
      have h9 := hst_ b hb.1 hb.2
      (try simp only [lg_eq] at *)
      unfold pAh
      (try rw [if_pos h8] at *)
      (try rw [if_pos h9] at *)
      clear h
      simp only [decide_eq_true_eq]
      grind
theorem l_X4_belongs {d z : Nat} {N : Nat → Nat} {I : Nat → Nat → Int32} {L : Nat → Nat → Int64} {R : Nat → Nat → Option Nat} {Q : qP} {p g : Int32} (hp : 0 ≤ I 54 5 ∧ I 54 5 ≤ 12) (hst_ : ∀ x : Int32, 0 ≤ x → x < I 54 5 → 0 ≤ I 57 x.toNatClampNeg ∧ I 57 x.toNatClampNeg < 12) (hpp : 0 ≤ p ∧ p < I 54 5) : ∀ (k : Int32), ∀ x : Int32, 0 ≤ k → x = 1 → Q (some (.int (upS p (gBel (pOne (L 55) (L 56) (I 57) (I 49) (I 50)) (I 58) p g) id k x))) (z, N, I, L, R) → qJ m_X4_belongs (qWP (d + 2)) Q 2 [(3, .int k), (2, .int g), (1, .int p), (0, .ref 54)] [] 0 0 (z, N, I, L, R) := by
  refine up_ind (p) fun k ih => ?_
  intro x h0 hx hq
  refine qJ_run (qWP_mono _) [2] 400 ?_
  refine ⟨fun (c1 : p ≤ k) => ?_, fun (c1 : ¬ p ≤ k) => ?_⟩
  · refine ⟨by first | exact Or.inl rfl | exact Or.inr rfl | (clear ih hq; grind), ?_⟩
    change Q (some (.int 1)) (z, N, I, L, R)
    rw [upS_ge (by clear ih hq; grind)] at hq
    subst hx
    exact hq
  · refine ⟨fun (c2 : 12 ≤ k) => ?_, fun (c2 : ¬ 12 ≤ k) => ?_⟩
    · refine ⟨by first | exact Or.inl rfl | exact Or.inr rfl | (clear ih hq; grind), ?_⟩
      change Q (some (.int 1)) (z, N, I, L, R)
      rw [upS_ge (by clear ih hq; grind)] at hq
      subst hx
      exact hq
    · refine ⟨?_, ?_⟩
      · exact vb (x := k) (N := 12) 12 (by decide) (by clear ih hq; grind) (by clear ih hq; grind)
      refine ⟨fun (c3 : ¬ (I 58 ((k).toNatClampNeg)) = g) => ?_, fun (c3 : (I 58 ((k).toNatClampNeg)) = g) => ?_⟩
      · have hk : k < p := by clear ih hq; grind
        have e9 : gBel (pOne (L 55) (L 56) (I 57) (I 49) (I 50)) (I 58) p g k x = .inl 1 := if_neg (by clear ih hq; grind)
        rw [upS_on hk e9] at hq
        exact ih hk _ (by clear ih hq; grind) rfl hq
      · refine ⟨⟨Nat.le_refl _, Nat.le_refl _⟩, ?_⟩
        refine c_X4_mayBeOne (d := d) hp hst_ ⟨by clear ih hq; grind, by clear ih hq; grind⟩ ⟨by clear ih hq; grind, by clear ih hq; grind⟩ fun v1 hv1 => ?_
        refine ⟨fun (c4 : ¬ v1 = 0) => ?_, fun (c4 : v1 = 0) => ?_⟩
        · have hk : k < p := by clear ih hq; grind
          have e9 : gBel (pOne (L 55) (L 56) (I 57) (I 49) (I 50)) (I 58) p g k x = .inl 1 := if_neg (by clear ih hq; grind)
          rw [upS_on hk e9] at hq
          exact ih hk _ (by clear ih hq; grind) rfl hq
        · refine ⟨by first | exact Or.inl rfl | exact Or.inr rfl | (clear ih hq; grind), ?_⟩
          change Q (some (.int 0)) (z, N, I, L, R)
          have hk : k < p := by clear ih hq; grind
          have e9 : gBel (pOne (L 55) (L 56) (I 57) (I 49) (I 50)) (I 58) p g k x = .inr 0 := if_pos ⟨by clear ih hq; grind, by clear ih hq; grind⟩
          rw [upS_out hk e9] at hq
          exact hq
theorem c_X4_belongs {d z : Nat} {N : Nat → Nat} {I : Nat → Nat → Int32} {L : Nat → Nat → Int64} {R : Nat → Nat → Option Nat} {Q : qP} {p : Int32} {g : Int32} (hp : 0 ≤ I 54 5 ∧ I 54 5 ≤ 12) (hst_ : ∀ x : Int32, 0 ≤ x → x < I 54 5 → 0 ≤ I 57 x.toNatClampNeg ∧ I 57 x.toNatClampNeg < 12) (hpp : 0 ≤ p ∧ p < I 54 5) (h : ∀ v : Int32, v = fBel (pOne (L 55) (L 56) (I 57) (I 49) (I 50)) (I 58) p g → Q (some (.int v)) (z, N, I, L, R)) : qWP (d + 3) 57 [.ref 54, .int p, .int g] (z, N, I, L, R) Q := by
  refine qWP_of m_X4_belongs rfl rfl [(0, .ref 54), (1, .int p), (2, .int g)] rfl ?_
  refine qJ_run (qWP_mono _) [2] 400 ?_
  refine qJ_nm (qWP_mono _) [] [(3, .int 0), (2, .int g), (1, .int p), (0, .ref 54)] rfl rfl rfl ?_
  exact l_X4_belongs (d := d) hp hst_ hpp 0 1 (by decide) rfl (h _ rfl)
def srtS (sp : Bool) (one : Int32 → Int32 → Bool) (gr : Nat → Int32) (p c x : Int32) : (Nat → Int32) × Int32 := (uI gr p.toNatClampNeg x, if c < x + 1 then x + 1 else c)
theorem l_X4_sort2 {d z : Nat} {N : Nat → Nat} {I : Nat → Nat → Int32} {L : Nat → Nat → Int64} {R : Nat → Nat → Option Nat} {Q : qP} (hp : 0 ≤ I 54 5 ∧ I 54 5 ≤ 12) (hst_ : ∀ x : Int32, 0 ≤ x → x < I 54 5 → 0 ≤ I 57 x.toNatClampNeg ∧ I 57 x.toNatClampNeg < 12) {sp : Bool} {w : Int32} (hw : (sp = true ∧ w = 1) ∨ (sp = false ∧ w = 0)) {gr : Nat → Int32} {p c : Int32} (hpp : 0 ≤ p ∧ p < I 54 5) (hout : ∀ x : Int32, qJ m_X4_sort (qWP (d + 3)) Q 12 [(3, .int (p + 1)), (2, .int (if c < x + 1 then x + 1 else c)), (1, .int w), (0, .ref 54)] [] 0 0 (z, N, qRow I 58 (uI gr p.toNatClampNeg x), L, R) ∨ ¬ x = fGrp sp (pOne (L 55) (L 56) (I 57) (I 49) (I 50)) gr p c) : ∀ (k x : Int32), 0 ≤ k → k ≤ c → x = k → (upS c (gGrp sp (pOne (L 55) (L 56) (I 57) (I 49) (I 50)) gr p) id k x = fGrp sp (pOne (L 55) (L 56) (I 57) (I 49) (I 50)) gr p c) → qJ m_X4_sort (qWP (d + 3)) Q 29 [(4, .int k), (3, .int p), (2, .int c), (1, .int w), (0, .ref 54)] [] 0 0 (z, N, qRow I 58 gr, L, R) := by
  refine up_ind c fun k ih => ?_
  intro x h0 h1 hx hq
  refine qJ_run (qWP_mono _) [12, 29, 63] 400 ?_
  refine ⟨fun (c1 : c ≤ k) => ?_, fun (c1 : ¬ c ≤ k) => ?_⟩
  · refine ⟨?_, ?_⟩
    · exact vb (x := p) (N := 12) 12 (by decide) (by clear ih hq hout; grind) (by clear ih hq hout; grind)
    refine qJ_M (M2 := (z, N, qRow I 58 (uI gr ((p).toNatClampNeg) k), L, R)) (by (try dsimp only); (simp (decide := true) only [q2_qRow, q2_qRow2, q2_qRow3]) <;> rfl) ?_
    change qJ m_X4_sort (qWP _) Q 63 [(4, .int k), (3, .int p), (2, .int c), (1, .int w), (0, .ref 54)] [] _ _ (z, N, qRow I 58 (uI gr ((p).toNatClampNeg) k), L, R)
    refine qJ_run (qWP_mono _) [12, 29, 63] 400 ?_
    refine qJ_nm (qWP_mono _) [(4, _)] [(3, .int (p + 1)), (2, .int (if c < (k + 1) then (k + 1) else c)), (1, .int w), (0, .ref 54)] rfl rfl rfl ?_
    have e9 : k = fGrp sp (pOne (L 55) (L 56) (I 57) (I 49) (I 50)) gr p c := by
      rw [← hq]
      first
      | (rw [upS_ge (by clear ih hq hout; grind)]; exact hx.symm)
      | (have hk : k < c := by clear ih hq hout; grind
         have e9 : gGrp sp (pOne (L 55) (L 56) (I 57) (I 49) (I 50)) gr p k x = .inr k := if_pos (by clear ih hq hout; grind)
         rw [upS_out hk e9])
    exact (hout k).resolve_right (fun h => h e9)
  · refine ⟨fun (c2 : w = 0) => ?_, fun (c2 : ¬ w = 0) => ?_⟩
    · have hk : k < c := by clear ih hq hout; grind
      have e9 : gGrp sp (pOne (L 55) (L 56) (I 57) (I 49) (I 50)) gr p k x = .inl (k + 1) := if_neg (by clear ih hq hout; grind)
      rw [upS_on hk e9] at hq
      exact ih hk _ (by clear ih hq hout; grind) (by clear ih hq hout; grind) rfl hq
    · refine ⟨⟨Nat.le_refl _, Nat.le_refl _⟩, ?_⟩
      refine c_X4_belongs (d := d) (by simp (decide := true) only [qRow_ne]; exact hp) (by simp (decide := true) only [qRow_ne]; exact hst_) (by simp (decide := true) only [qRow_ne]; exact hpp) fun v1 hv1 => ?_
      simp (decide := true) only [qRow_ne, qRow_at] at hv1
      have h01 : v1 = 0 ∨ v1 = 1 := by rw [hv1]; exact fBel01 hpp.1
      refine ⟨fun (c3 : ¬ v1 = 0) => ?_, fun (c3 : v1 = 0) => ?_⟩
      · refine ⟨?_, ?_⟩
        · exact vb (x := p) (N := 12) 12 (by decide) (by clear ih hq hout; grind) (by clear ih hq hout; grind)
        refine qJ_M (M2 := (z, N, qRow I 58 (uI gr ((p).toNatClampNeg) k), L, R)) (by (try dsimp only); (simp (decide := true) only [q2_qRow, q2_qRow2, q2_qRow3]) <;> rfl) ?_
        change qJ m_X4_sort (qWP _) Q 63 [(4, .int k), (3, .int p), (2, .int c), (1, .int w), (0, .ref 54)] [] _ _ (z, N, qRow I 58 (uI gr ((p).toNatClampNeg) k), L, R)
        refine qJ_run (qWP_mono _) [12, 29, 63] 400 ?_
        refine qJ_nm (qWP_mono _) [(4, _)] [(3, .int (p + 1)), (2, .int (if c < (k + 1) then (k + 1) else c)), (1, .int w), (0, .ref 54)] rfl rfl rfl ?_
        have e9 : k = fGrp sp (pOne (L 55) (L 56) (I 57) (I 49) (I 50)) gr p c := by
          rw [← hq]
          first
          | (rw [upS_ge (by clear ih hq hout; grind)]; exact hx.symm)
          | (have hk : k < c := by clear ih hq hout; grind
             have e9 : gGrp sp (pOne (L 55) (L 56) (I 57) (I 49) (I 50)) gr p k x = .inr k := if_pos (by clear ih hq hout; grind)
             rw [upS_out hk e9])
        exact (hout k).resolve_right (fun h => h e9)
      · have hk : k < c := by clear ih hq hout; grind
        have e9 : gGrp sp (pOne (L 55) (L 56) (I 57) (I 49) (I 50)) gr p k x = .inl (k + 1) := if_neg (by clear ih hq hout; grind)
        rw [upS_on hk e9] at hq
        exact ih hk _ (by clear ih hq hout; grind) (by clear ih hq hout; grind) rfl hq
theorem l_X4_sort {d z : Nat} {N : Nat → Nat} {I : Nat → Nat → Int32} {L : Nat → Nat → Int64} {R : Nat → Nat → Option Nat} {Q : qP} (hp : 0 ≤ I 54 5 ∧ I 54 5 ≤ 12) (hst_ : ∀ x : Int32, 0 ≤ x → x < I 54 5 → 0 ≤ I 57 x.toNatClampNeg ∧ I 57 x.toNatClampNeg < 12) {sp : Bool} {w : Int32} (hw : (sp = true ∧ w = 1) ∨ (sp = false ∧ w = 0)) : ∀ (p : Int32), ∀ (gr : Nat → Int32) (c : Int32), 0 ≤ p → 0 ≤ c → Q (some (.int (upF (I 54 5) (gSrt sp (pOne (L 55) (L 56) (I 57) (I 49) (I 50))) p (gr, c)).2)) (z, N, qRow I 58 (upF (I 54 5) (gSrt sp (pOne (L 55) (L 56) (I 57) (I 49) (I 50))) p (gr, c)).1, L, R) → qJ m_X4_sort (qWP (d + 3)) Q 12 [(3, .int p), (2, .int c), (1, .int w), (0, .ref 54)] [] 0 0 (z, N, qRow I 58 gr, L, R) := by
  refine up_ind (I 54 5) fun p ih => ?_
  intro gr c h0 hc hq
  refine qJ_run (qWP_mono _) [12, 29] 400 ?_
  refine ⟨fun (c1 : (I 54 5) ≤ p) => ?_, fun (c1 : ¬ (I 54 5) ≤ p) => ?_⟩
  · change Q (some (.int c)) (z, N, qRow I 58 gr, L, R)
    rw [upF_ge (by clear ih hq; grind)] at hq
    exact hq
  · refine ⟨fun (c2 : 12 ≤ p) => ?_, fun (c2 : ¬ 12 ≤ p) => ?_⟩
    · change Q (some (.int c)) (z, N, qRow I 58 gr, L, R)
      rw [upF_ge (by clear ih hq; grind)] at hq
      exact hq
    · have hk : p < I 54 5 := by clear ih hq; grind
      rw [upF_on hk] at hq
      refine l_X4_sort2 (d := d) hp hst_ hw ⟨h0, hk⟩ (fun x => ?_) 0 0 (by decide) hc rfl rfl
      by_cases e9 : x = fGrp sp (pOne (L 55) (L 56) (I 57) (I 49) (I 50)) gr p c
      · left
        subst e9
        have hr := fGrp_r (sp := sp) (one := pOne (L 55) (L 56) (I 57) (I 49) (I 50)) (gr := gr) (p := p) hc
        exact ih hk _ _ (by clear ih hq; grind) (by clear ih hq; generalize fGrp sp (pOne (L 55) (L 56) (I 57) (I 49) (I 50)) gr p c = g at *; split <;> grind) hq
      · exact Or.inr e9
