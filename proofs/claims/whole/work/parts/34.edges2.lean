/-! edges: sums and bests -/
def dAb (x : Int32) : Int32 := if 0 ≤ x then x else 0 - x
def gSum (mk : Nat → Int32) (tl a b k s : Int32) : Sum Int32 Int32 := if tl < dAb (mk (mX a 1 k) - mk (mX b 0 k)) then .inr (-1) else .inl (s + dAb (mk (mX a 1 k) - mk (mX b 0 k)))
def fRoom (l mk : Nat → Int32) (tl a b : Int32) : Int32 := if a = b ∨ ¬ l a.toNatClampNeg = l b.toNatClampNeg then -1 else upS (l a.toNatClampNeg) (gSum mk tl a b) id 0 0
def vBest (l mk : Nat → Int32) (tl s e k : Int32) : Int32 := if e = 1 then fRoom l mk tl s k else fRoom l mk tl k s
def gBest (l mk nb : Nat → Int32) (tl s e k : Int32) (b : Int32 × Int32) : Int32 × Int32 := if nb (nX k (1 - e)) = -1 ∧ ¬ vBest l mk tl s e k = -1 ∧ (b.1 = -1 ∨ vBest l mk tl s e k < b.2) then (k, vBest l mk tl s e k) else b
def fBest (l mk nb : Nat → Int32) (tl n s e : Int32) : Int32 := if ¬ nb (nX s e) = -1 then -1 else (upF n (gBest l mk nb tl s e) 0 (-1, -1)).1
def gBestR (l mk rt lf : Nat → Int32) (tl s e k : Int32) (b : Int32 × Int32) : Int32 × Int32 := if 0 ≤ (if e = 1 then lf k.toNatClampNeg else rt k.toNatClampNeg) ∨ vBest l mk tl s e k < 0 ∨ (0 ≤ b.1 ∧ b.2 ≤ vBest l mk tl s e k) then b else (k, vBest l mk tl s e k)
def fBestR (l mk rt lf : Nat → Int32) (tl n s e : Int32) : Int32 := if 0 ≤ (if e = 1 then rt s.toNatClampNeg else lf s.toNatClampNeg) then -1 else (upF n (gBestR l mk rt lf tl s e) 0 (-1, 0)).1
theorem upS_inv {σ α : Type} {n : Int32} {g : Int32 → σ → Sum σ α} {e : σ → α} (P : Int32 → σ → Prop) (E : α → Prop) (he : ∀ x, P n x → E (e x)) (hg : ∀ k x, 0 ≤ k → k < n → P k x → (∃ x', g k x = .inl x' ∧ P (k + 1) x') ∨ (∃ a, g k x = .inr a ∧ E a)) (k : Int32) : ∀ x : σ, 0 ≤ k → k ≤ n → P k x → E (upS n g e k x) := by
  refine up_ind n (P := fun k => ∀ x, 0 ≤ k → k ≤ n → P k x → E (upS n g e k x)) (fun k ih x h0 h1 h => ?_) k
  by_cases hk : k < n
  · rcases hg k x h0 hk h with ⟨x', e1, h2⟩ | ⟨a, e1, h2⟩
    · rw [upS_on hk e1]
      exact ih hk _ (by grind) (by grind) h2
    · rw [upS_out hk e1]
      exact h2
  · have : k = n := by grind
    subst this
    rw [upS_ge hk]
    exact he x h
def okM (mk : Nat → Int32) : Prop := ∀ j : Nat, j < 96 → 0 ≤ mk j ∧ mk j ≤ 9
theorem dAb_r {x y : Int32} (hx : 0 ≤ x ∧ x ≤ 9) (hy : 0 ≤ y ∧ y ≤ 9) : 0 ≤ dAb (x - y) ∧ dAb (x - y) ≤ 9 := by
  simp only [fa_le] at *
  rw [show (0 : Int32).toInt = 0 from rfl, show (9 : Int32).toInt = 9 from rfl] at *
  have e : (x - y).toInt = x.toInt - y.toInt := ti_sub (by omega)
  unfold dAb
  by_cases h : 0 ≤ x - y
  · have h2 := Int32.le_iff_toInt_le.mp h
    rw [show (0 : Int32).toInt = 0 from rfl] at h2
    rw [if_pos h]; omega
  · have h2 : ¬ 0 ≤ (x - y).toInt := fun h3 => h (Int32.le_iff_toInt_le.mpr h3)
    have e2 : (0 - (x - y)).toInt = 0 - (x - y).toInt := ti_sub (by rw [show (0 : Int32).toInt = 0 from rfl]; omega)
    rw [if_neg h, e2]; omega
theorem fRoom_ge {l mk : Nat → Int32} {tl a b : Int32} (hm : okM mk) (ht : 0 ≤ tl ∧ tl ≤ 3) (ha : 0 ≤ a ∧ a < 12) (hb : 0 ≤ b ∧ b < 12) (hl : 0 ≤ l a.toNatClampNeg ∧ l a.toNatClampNeg ≤ 4) : fRoom l mk tl a b = -1 ∨ 0 ≤ fRoom l mk tl a b := by
  unfold fRoom
  by_cases h : a = b ∨ ¬ l a.toNatClampNeg = l b.toNatClampNeg
  · rw [if_pos h]; exact Or.inl rfl
  · rw [if_neg h]
    refine upS_inv (fun k s => 0 ≤ s ∧ s ≤ k * 3) (fun r => r = -1 ∨ 0 ≤ r) (fun x hx => Or.inr hx.1) (fun k s h0 h1 h => ?_) 0 0 (by decide) hl.1 ⟨by decide, by decide⟩
    have hk4 : 0 ≤ k ∧ k < 4 := by grind
    have hd := dAb_r (hm _ (mX_n ha (Or.inr rfl) hk4).2.1) (hm _ (mX_n hb (Or.inl rfl) hk4).2.1)
    unfold gSum
    generalize dAb (mk (mX a 1 k) - mk (mX b 0 k)) = w at *
    by_cases hc : tl < w
    · rw [if_pos hc]; exact Or.inr ⟨_, rfl, Or.inl rfl⟩
    · rw [if_neg hc]
      exact Or.inl ⟨_, rfl, by grind⟩
theorem fRoom_eq {l l' mk mk' : Nat → Int32} {tl a b : Int32} (hm : ∀ j : Nat, j < 96 → mk' j = mk j) (ha : 0 ≤ a ∧ a < 12) (hb : 0 ≤ b ∧ b < 12) (hla : l' a.toNatClampNeg = l a.toNatClampNeg) (hlb : l' b.toNatClampNeg = l b.toNatClampNeg) (hl : 0 ≤ l a.toNatClampNeg ∧ l a.toNatClampNeg ≤ 4) : fRoom l' mk' tl a b = fRoom l mk tl a b := by
  unfold fRoom
  rw [hla, hlb]
  by_cases h : a = b ∨ ¬ l a.toNatClampNeg = l b.toNatClampNeg
  · rw [if_pos h, if_pos h]
  · rw [if_neg h, if_neg h]
    refine upS_rel2 (fun _ (x y : Int32) => x = y) (fun (x y : Int32) => x = y) (fun x y h => h) (fun k x y h0 h1 h => ?_) 0 0 0 (by decide) hl.1 rfl
    have hk4 : 0 ≤ k ∧ k < 4 := by grind
    subst h
    unfold gSum
    rw [hm _ (mX_n ha (Or.inr rfl) hk4).2.1, hm _ (mX_n hb (Or.inl rfl) hk4).2.1]
    by_cases hc : tl < dAb (mk (mX a 1 k) - mk (mX b 0 k))
    · rw [if_pos hc]; exact Or.inr ⟨_, _, rfl, rfl, rfl⟩
    · rw [if_neg hc]; exact Or.inl ⟨_, _, rfl, rfl, rfl⟩
theorem best_rel {n tl tl' s e : Int32} {l l' p p' mk mk' nb rt lf : Nat → Int32} {n' : Int32} (hSt : RSt n n' l p l' p') (h : REd n l tl tl' mk mk' nb rt lf) (hs : 0 ≤ s ∧ s < n) (he : e = 0 ∨ e = 1) : fBestR l' mk' rt lf tl' n' s e = fBest l mk nb tl n s e := by
  obtain ⟨hn', hn0, hn12, hl⟩ := hSt
  subst hn'
  have hh := h
  obtain ⟨ht', ht0, ht3, hmk, h5, h6, h7⟩ := h
  subst ht'
  have hm : ∀ j : Nat, j < 96 → mk' j = mk j := fun j hj => (hmk j hj).1
  have hv : ∀ k : Int32, 0 ≤ k → k < n' → vBest l' mk' tl' s e k = vBest l mk tl' s e k ∧ (vBest l mk tl' s e k = -1 ∨ 0 ≤ vBest l mk tl' s e k) := fun k h0 hk => by
    have ls := hl s hs.1 hs.2
    have lk := hl k h0 hk
    have b1 : 0 ≤ l s.toNatClampNeg ∧ l s.toNatClampNeg ≤ 4 := by grind
    have b2 : 0 ≤ l k.toNatClampNeg ∧ l k.toNatClampNeg ≤ 4 := by grind
    have hs12 : 0 ≤ s ∧ s < 12 := by grind
    have hk12 : 0 ≤ k ∧ k < 12 := by grind
    unfold vBest
    by_cases hc : e = 1
    · rw [if_pos hc, if_pos hc]
      exact ⟨fRoom_eq hm hs12 hk12 ls.1 lk.1 b1, fRoom_ge (fun j hj => (hmk j hj).2) ⟨ht0, ht3⟩ hs12 hk12 b1⟩
    · rw [if_neg hc, if_neg hc]
      exact ⟨fRoom_eq hm hk12 hs12 lk.1 ls.1 b2, fRoom_ge (fun j hj => (hmk j hj).2) ⟨ht0, ht3⟩ hk12 hs12 b2⟩
  have hnb : ∀ k : Int32, 0 ≤ k → k < n' → ∀ e : Int32, e = 0 ∨ e = 1 → (nb (nX k e) = (if e = 1 then rt k.toNatClampNeg else lf k.toNatClampNeg)) ∧ -1 ≤ nb (nX k e) := fun k h0 hk e he => by
    have g := ed_nb hh hn12 h0 hk
    have g5 := h5 k h0 hk
    rcases he with rfl | rfl
    · rw [g.1, if_neg (by decide)]; exact ⟨rfl, g5.2.2.1⟩
    · rw [g.2, if_pos rfl]; exact ⟨rfl, g5.2.2.2.2.1⟩
  unfold fBestR fBest
  have h1 := hnb s hs.1 hs.2 e he
  rw [← h1.1]
  by_cases hc : nb (nX s e) = -1
  · rw [if_neg (by rw [hc]; decide), if_neg (fun h => h hc)]
    have hr := upF_rel (n := n') (g := gBestR l' mk' rt lf tl' s e) (g' := gBest l mk nb tl' s e) (fun _ b c => b.1 = c.1 ∧ (b.1 = -1 ∨ (0 ≤ b.1 ∧ b.2 = c.2))) (fun k b c hk0 hk hb => ?_) 0 (-1, 0) (-1, -1) (by decide) hn0 ⟨rfl, Or.inl rfl⟩
    · exact hr.1
    · have g2 := hv k hk0 hk
      have g1 := hnb k hk0 hk (1 - e) (by rcases he with rfl | rfl <;> decide)
      have g3 : (if e = 1 then lf k.toNatClampNeg else rt k.toNatClampNeg) = nb (nX k (1 - e)) := by
        rw [g1.1]
        rcases he with rfl | rfl
        · rw [if_neg (by decide), if_pos (by decide)]
        · rw [if_pos rfl, if_neg (by decide)]
      unfold gBestR gBest
      rw [g2.1, g3]
      have g4 := g1.2
      have g5 := g2.2
      generalize vBest l mk tl' s e k = v at *
      generalize nb (nX k (1 - e)) = w at *
      clear g2 g1 g3 hv hnb h5 h6 h7 hh hl hmk hm h1
      obtain ⟨b1, b2⟩ := b
      obtain ⟨c1, c2⟩ := c
      dsimp only at hb ⊢
      by_cases hq : w = -1 ∧ ¬ v = -1 ∧ (c1 = -1 ∨ v < c2)
      · rw [if_neg (by grind), if_pos hq]
        exact ⟨rfl, Or.inr ⟨hk0, rfl⟩⟩
      · rw [if_pos (by grind), if_neg hq]
        exact hb
  · rw [if_pos (by grind), if_pos hc]
theorem nat_ind {P : Nat → Prop} (hs : ∀ m, (∀ k, k + 1 = m → P k) → P m) (m : Nat) : P m := by
  induction m with
  | zero => exact hs 0 fun k h => absurd h (by omega)
  | succ m ih => exact hs (m + 1) fun k h => (show m = k by omega) ▸ ih
def leadR (rt : Nat → Int32) (to : Int32) : Nat → Int32 → Bool
  | 0, _ => false
  | m + 1, x => if x < 0 then false else if x = to then true else leadR rt to m (rt x.toNatClampNeg)
theorem lead_rel {n tl tl' to : Int32} {l mk mk' nb rt lf : Nat → Int32} (h : REd n l tl tl' mk mk' nb rt lf) (hn : n ≤ 12) : ∀ (m : Nat) (x : Int32), (x = -1 ∨ (0 ≤ x ∧ x < n)) → leads nb to m x = leadR rt to m x := by
  intro m
  induction m with
  | zero => intro x _; rfl
  | succ m ih =>
    intro x hx
    rw [leads_s, show leadR rt to (m + 1) x = (if x < 0 then false else if x = to then true else leadR rt to m (rt x.toNatClampNeg)) from rfl]
    rcases hx with hx | hx
    · rw [if_pos hx, if_pos (by grind)]
    · rw [if_neg (show ¬ x = -1 by grind), if_neg (show ¬ x < 0 by grind), (ed_nb h hn hx.1 hx.2).2]
      have g := h.2.2.2.2.1 x hx.1 hx.2
      rw [ih _ (by have := g.2.2.2.2.1; have := g.2.2.2.2.2.1; grind)]
theorem q2_both {f : Nat → Nat → Int32} {a b j i : Nat} {v w : Int32} (h : a ≠ b) : q2 (q2 f b j v) a i w = qRow (qRow f a (uI (f a) i w)) b (uI (f b) j v) := by
  funext c k
  by_cases h1 : c = b
  · subst h1; simp [q2, qRow, uI, Ne.symm h]
  · by_cases h2 : c = a
    · subst h2; simp [q2, qRow, uI, h1]
    · simp [q2, qRow, h1, h2]
theorem l_X1_sum {d z : Nat} {N : Nat → Nat} {I : Nat → Nat → Int32} {L : Nat → Nat → Int64} {R : Nat → Nat → Option Nat} {Q : qP} {a b : Int32} (hs : 0 ≤ I 3 2 ∧ I 3 2 ≤ 12) (ha : 0 ≤ a ∧ a < I 3 2) (hb : 0 ≤ b ∧ b < I 3 2) (hl : 1 ≤ I 4 a.toNatClampNeg ∧ I 4 a.toNatClampNeg ≤ 4) : ∀ (k : Int32), ∀ s : Int32, 0 ≤ k → Q (some (.int (upS (I 4 a.toNatClampNeg) (gSum (I 44) (I 43 3) a b) id k s))) (z, N, I, L, R) → qJ m_X1_sum (qWP (d + 2)) Q 31 [(4, .int k), (3, .int s), (2, .int b), (1, .int a), (0, .ref 43)] [] 0 0 (z, N, I, L, R) := by
  refine up_ind ((I 4 a.toNatClampNeg)) fun k ih => ?_
  intro s h0 hq
  refine qJ_run (qWP_mono _) [31] 400 ?_
  refine ⟨⟨Nat.le_refl _, Nat.le_refl _⟩, ?_⟩
  refine c_X6_linesOf hs fun v1 hv1 => ?_
  refine ⟨fun (c1 : v1 ≤ k) => ?_, fun (c1 : ¬ v1 ≤ k) => ?_⟩
  · change Q (some (.int s)) (z, N, I, L, R)
    rw [upS_ge (by clear ih hq; grind)] at hq
    exact hq
  · refine ⟨⟨Nat.le_refl _, Nat.le_refl _⟩, ?_⟩
    refine c_X1_mark fun v2 hv2 => ?_
    replace hv2 : v2 = I 44 (mX a 1 k) := hv2.trans (if_pos (mX_n ⟨by clear ih hq; grind, by clear ih hq; grind⟩ (Or.inr rfl) ⟨by clear ih hq; grind, by clear ih hq; grind⟩).1)
    refine ⟨⟨Nat.le_refl _, Nat.le_refl _⟩, ?_⟩
    refine c_X1_mark fun v3 hv3 => ?_
    replace hv3 : v3 = I 44 (mX b 0 k) := hv3.trans (if_pos (mX_n ⟨by clear ih hq; grind, by clear ih hq; grind⟩ (Or.inl rfl) ⟨by clear ih hq; grind, by clear ih hq; grind⟩).1)
    refine ⟨fun (c2 : (if 0 ≤ (v2 - v3) then (v2 - v3) else 0 - (v2 - v3)) ≤ (I 43 3)) => ?_, fun (c2 : ¬ (if 0 ≤ (v2 - v3) then (v2 - v3) else 0 - (v2 - v3)) ≤ (I 43 3)) => ?_⟩
    · refine qJ_nm (qWP_mono _) [(5, _)] [(4, .int (k + 1)), (3, .int (s + (if 0 ≤ (v2 - v3) then (v2 - v3) else 0 - (v2 - v3)))), (2, .int b), (1, .int a), (0, .ref 43)] rfl rfl rfl ?_
      have hk : k < (I 4 a.toNatClampNeg) := by clear ih hq; grind
      have e : gSum (I 44) (I 43 3) a b k s = .inl (s + (if 0 ≤ (v2 - v3) then (v2 - v3) else 0 - (v2 - v3))) := by
        unfold gSum dAb
        rw [← hv2, ← hv3]
        exact if_neg (by clear ih hq; grind)
      rw [upS_on hk e] at hq
      exact ih hk _ (by clear ih hq; grind) hq
    · change Q (some (.int (-1))) (z, N, I, L, R)
      have hk : k < (I 4 a.toNatClampNeg) := by clear ih hq; grind
      have e : gSum (I 44) (I 43 3) a b k s = .inr (-1) := by
        unfold gSum dAb
        rw [← hv2, ← hv3]
        exact if_pos (by clear ih hq; grind)
      rw [upS_out hk e] at hq
      exact hq
theorem c_X1_sum {d z : Nat} {N : Nat → Nat} {I : Nat → Nat → Int32} {L : Nat → Nat → Int64} {R : Nat → Nat → Option Nat} {Q : qP} {a : Int32} {b : Int32} (hs : 0 ≤ I 3 2 ∧ I 3 2 ≤ 12) (ha : 0 ≤ a ∧ a < I 3 2) (hb : 0 ≤ b ∧ b < I 3 2) (hl : 1 ≤ I 4 a.toNatClampNeg ∧ I 4 a.toNatClampNeg ≤ 4) (h : ∀ v : Int32, v = fRoom (I 4) (I 44) (I 43 3) a b → Q (some (.int v)) (z, N, I, L, R)) : qWP (d + 3) 18 [.ref 43, .int a, .int b] (z, N, I, L, R) Q := by
  refine qWP_of m_X1_sum rfl rfl [(0, .ref 43), (1, .int a), (2, .int b)] rfl ?_
  refine qJ_run (qWP_mono _) [31] 400 ?_
  refine ⟨fun (c1 : a = b) => ?_, fun (c1 : ¬ a = b) => ?_⟩
  · change Q (some (.int (-1))) (z, N, I, L, R)
    refine h _ ?_
    unfold fRoom
    exact (if_pos (by clear h; grind)).symm
  · refine ⟨⟨Nat.le_refl _, Nat.le_refl _⟩, ?_⟩
    refine c_X6_linesOf hs fun v1 hv1 => ?_
    refine ⟨⟨Nat.le_refl _, Nat.le_refl _⟩, ?_⟩
    refine c_X6_linesOf hs fun v2 hv2 => ?_
    refine ⟨fun (c2 : v1 = v2) => ?_, fun (c2 : ¬ v1 = v2) => ?_⟩
    · refine qJ_nm (qWP_mono _) [] [(4, .int 0), (3, .int 0), (2, .int b), (1, .int a), (0, .ref 43)] rfl rfl rfl ?_
      refine l_X1_sum (d := d) hs ha hb hl 0 0 (by decide) (h _ ?_)
      unfold fRoom
      exact (if_neg (by clear h; grind)).symm
    · change Q (some (.int (-1))) (z, N, I, L, R)
      refine h _ ?_
      unfold fRoom
      exact (if_pos (by clear h; grind)).symm
theorem l_X1_bestOf {d z : Nat} {N : Nat → Nat} {I : Nat → Nat → Int32} {L : Nat → Nat → Int64} {R : Nat → Nat → Option Nat} {Q : qP} {s e : Int32} (hs : 0 ≤ I 3 2 ∧ I 3 2 ≤ 12) (hse : 0 ≤ s ∧ s < I 3 2) (he : e = 0 ∨ e = 1) (hl : ∀ x : Int32, 0 ≤ x → x < I 3 2 → 1 ≤ I 4 x.toNatClampNeg ∧ I 4 x.toNatClampNeg ≤ 4) : ∀ (k : Int32), ∀ b t : Int32, 0 ≤ k → Q (some (.int ((upF (I 3 2) (gBest (I 4) (I 44) (I 45) (I 43 3) s e) k (b, t)).1))) (z, N, I, L, R) → qJ m_X1_bestOf (qWP (d + 3)) Q 20 [(5, .int k), (4, .int t), (3, .int b), (2, .int e), (1, .int s), (0, .ref 43)] [] 0 0 (z, N, I, L, R) := by
  refine up_ind (I 3 2) fun k ih => ?_
  intro b t h0 hq
  refine qJ_run (qWP_mono _) [20] 400 ?_
  refine ⟨⟨Nat.le_refl _, Nat.le_refl _⟩, ?_⟩
  refine c_X6_size fun v1 hv1 => ?_
  refine ⟨fun (c1 : v1 ≤ k) => ?_, fun (c1 : ¬ v1 ≤ k) => ?_⟩
  · change Q (some (.int b)) (z, N, I, L, R)
    rw [upF_ge (by clear ih hq; grind)] at hq
    exact hq
  · refine ⟨fun (c2 : ¬ e = 1) => ?_, fun (c2 : e = 1) => ?_⟩
    · refine ⟨⟨Nat.le_refl _, Nat.le_refl _⟩, ?_⟩
      refine c_X1_sum (d := d) hs ⟨by clear ih hq; grind, by clear ih hq; grind⟩ ⟨by clear ih hq; grind, by clear ih hq; grind⟩ (hl _ (by clear ih hq; grind) (by clear ih hq; grind)) fun v2 hv2 => ?_
      refine ⟨⟨Nat.le_refl _, Nat.le_refl _⟩, ?_⟩
      refine c_X1_neighbour fun v3 hv3 => ?_
      replace hv3 : v3 = I 45 (nX k (1 - e)) := hv3.trans (if_pos (nX_n ⟨by clear ih hq; grind, by clear ih hq; grind⟩ (by clear ih hq; rcases he with rfl | rfl <;> decide)).2.1)
      refine ⟨fun (c3 : ¬ v3 = (-1)) => ?_, fun (c3 : v3 = (-1)) => ?_⟩
      · refine ⟨fun _ => ?_, fun h => absurd h (by decide)⟩
        refine qJ_nm (qWP_mono _) [(7, _), (6, _)] [(5, .int (k + 1)), (4, .int t), (3, .int b), (2, .int e), (1, .int s), (0, .ref 43)] rfl rfl rfl ?_
        have hk : k < I 3 2 := by clear ih hq; grind
        have hv : vBest (I 4) (I 44) (I 43 3) s e k = v2 := by
          unfold vBest
          first | exact (if_pos (by assumption)).trans (by symm; assumption) | exact (if_neg (by assumption)).trans (by symm; assumption)
        have e9 : gBest (I 4) (I 44) (I 45) (I 43 3) s e k (b, t) = (b, t) := by
          unfold gBest
          rw [hv]
          clear ih hq
          first | exact if_pos (by grind) | exact if_neg (by grind)
        rw [upF_on hk, e9] at hq
        exact ih hk _ _ (by clear ih hq; grind) hq
      · refine ⟨fun h => absurd h (by decide), fun _ => ?_⟩
        refine ⟨fun (c4 : v2 = (-1)) => ?_, fun (c4 : ¬ v2 = (-1)) => ?_⟩
        · refine qJ_nm (qWP_mono _) [(7, _), (6, _)] [(5, .int (k + 1)), (4, .int t), (3, .int b), (2, .int e), (1, .int s), (0, .ref 43)] rfl rfl rfl ?_
          have hk : k < I 3 2 := by clear ih hq; grind
          have hv : vBest (I 4) (I 44) (I 43 3) s e k = v2 := by
            unfold vBest
            first | exact (if_pos (by assumption)).trans (by symm; assumption) | exact (if_neg (by assumption)).trans (by symm; assumption)
          have e9 : gBest (I 4) (I 44) (I 45) (I 43 3) s e k (b, t) = (b, t) := by
            unfold gBest
            rw [hv]
            clear ih hq
            first | exact if_pos (by grind) | exact if_neg (by grind)
          rw [upF_on hk, e9] at hq
          exact ih hk _ _ (by clear ih hq; grind) hq
        · refine ⟨fun (c5 : b = (-1)) => ?_, fun (c5 : ¬ b = (-1)) => ?_⟩
          · refine qJ_nm (qWP_mono _) [(7, _), (6, _)] [(5, .int (k + 1)), (4, .int v2), (3, .int k), (2, .int e), (1, .int s), (0, .ref 43)] rfl rfl rfl ?_
            have hk : k < I 3 2 := by clear ih hq; grind
            have hv : vBest (I 4) (I 44) (I 43 3) s e k = v2 := by
              unfold vBest
              first | exact (if_pos (by assumption)).trans (by symm; assumption) | exact (if_neg (by assumption)).trans (by symm; assumption)
            have e9 : gBest (I 4) (I 44) (I 45) (I 43 3) s e k (b, t) = (k, v2) := by
              unfold gBest
              rw [hv]
              clear ih hq
              first | exact if_pos (by grind) | exact if_neg (by grind)
            rw [upF_on hk, e9] at hq
            exact ih hk _ _ (by clear ih hq; grind) hq
          · refine ⟨fun (c6 : t ≤ v2) => ?_, fun (c6 : ¬ t ≤ v2) => ?_⟩
            · refine qJ_nm (qWP_mono _) [(7, _), (6, _)] [(5, .int (k + 1)), (4, .int t), (3, .int b), (2, .int e), (1, .int s), (0, .ref 43)] rfl rfl rfl ?_
              have hk : k < I 3 2 := by clear ih hq; grind
              have hv : vBest (I 4) (I 44) (I 43 3) s e k = v2 := by
                unfold vBest
                first | exact (if_pos (by assumption)).trans (by symm; assumption) | exact (if_neg (by assumption)).trans (by symm; assumption)
              have e9 : gBest (I 4) (I 44) (I 45) (I 43 3) s e k (b, t) = (b, t) := by
                unfold gBest
                rw [hv]
                clear ih hq
                first | exact if_pos (by grind) | exact if_neg (by grind)
              rw [upF_on hk, e9] at hq
              exact ih hk _ _ (by clear ih hq; grind) hq
            · refine qJ_nm (qWP_mono _) [(7, _), (6, _)] [(5, .int (k + 1)), (4, .int v2), (3, .int k), (2, .int e), (1, .int s), (0, .ref 43)] rfl rfl rfl ?_
              have hk : k < I 3 2 := by clear ih hq; grind
              have hv : vBest (I 4) (I 44) (I 43 3) s e k = v2 := by
                unfold vBest
                first | exact (if_pos (by assumption)).trans (by symm; assumption) | exact (if_neg (by assumption)).trans (by symm; assumption)
              have e9 : gBest (I 4) (I 44) (I 45) (I 43 3) s e k (b, t) = (k, v2) := by
                unfold gBest
                rw [hv]
                clear ih hq
                first | exact if_pos (by grind) | exact if_neg (by grind)
              rw [upF_on hk, e9] at hq
              exact ih hk _ _ (by clear ih hq; grind) hq
    · refine ⟨⟨Nat.le_refl _, Nat.le_refl _⟩, ?_⟩
      refine c_X1_sum (d := d) hs ⟨by clear ih hq; grind, by clear ih hq; grind⟩ ⟨by clear ih hq; grind, by clear ih hq; grind⟩ (hl _ (by clear ih hq; grind) (by clear ih hq; grind)) fun v4 hv4 => ?_
      refine ⟨⟨Nat.le_refl _, Nat.le_refl _⟩, ?_⟩
      refine c_X1_neighbour fun v5 hv5 => ?_
      replace hv5 : v5 = I 45 (nX k (1 - e)) := hv5.trans (if_pos (nX_n ⟨by clear ih hq; grind, by clear ih hq; grind⟩ (by clear ih hq; rcases he with rfl | rfl <;> decide)).2.1)
      refine ⟨fun (c7 : ¬ v5 = (-1)) => ?_, fun (c7 : v5 = (-1)) => ?_⟩
      · refine ⟨fun _ => ?_, fun h => absurd h (by decide)⟩
        refine qJ_nm (qWP_mono _) [(7, _), (6, _)] [(5, .int (k + 1)), (4, .int t), (3, .int b), (2, .int e), (1, .int s), (0, .ref 43)] rfl rfl rfl ?_
        have hk : k < I 3 2 := by clear ih hq; grind
        have hv : vBest (I 4) (I 44) (I 43 3) s e k = v4 := by
          unfold vBest
          first | exact (if_pos (by assumption)).trans (by symm; assumption) | exact (if_neg (by assumption)).trans (by symm; assumption)
        have e9 : gBest (I 4) (I 44) (I 45) (I 43 3) s e k (b, t) = (b, t) := by
          unfold gBest
          rw [hv]
          clear ih hq
          first | exact if_pos (by grind) | exact if_neg (by grind)
        rw [upF_on hk, e9] at hq
        exact ih hk _ _ (by clear ih hq; grind) hq
      · refine ⟨fun h => absurd h (by decide), fun _ => ?_⟩
        refine ⟨fun (c8 : v4 = (-1)) => ?_, fun (c8 : ¬ v4 = (-1)) => ?_⟩
        · refine qJ_nm (qWP_mono _) [(7, _), (6, _)] [(5, .int (k + 1)), (4, .int t), (3, .int b), (2, .int e), (1, .int s), (0, .ref 43)] rfl rfl rfl ?_
          have hk : k < I 3 2 := by clear ih hq; grind
          have hv : vBest (I 4) (I 44) (I 43 3) s e k = v4 := by
            unfold vBest
            first | exact (if_pos (by assumption)).trans (by symm; assumption) | exact (if_neg (by assumption)).trans (by symm; assumption)
          have e9 : gBest (I 4) (I 44) (I 45) (I 43 3) s e k (b, t) = (b, t) := by
            unfold gBest
            rw [hv]
            clear ih hq
            first | exact if_pos (by grind) | exact if_neg (by grind)
          rw [upF_on hk, e9] at hq
          exact ih hk _ _ (by clear ih hq; grind) hq
        · refine ⟨fun (c9 : b = (-1)) => ?_, fun (c9 : ¬ b = (-1)) => ?_⟩
          · refine qJ_nm (qWP_mono _) [(7, _), (6, _)] [(5, .int (k + 1)), (4, .int v4), (3, .int k), (2, .int e), (1, .int s), (0, .ref 43)] rfl rfl rfl ?_
            have hk : k < I 3 2 := by clear ih hq; grind
            have hv : vBest (I 4) (I 44) (I 43 3) s e k = v4 := by
              unfold vBest
              first | exact (if_pos (by assumption)).trans (by symm; assumption) | exact (if_neg (by assumption)).trans (by symm; assumption)
            have e9 : gBest (I 4) (I 44) (I 45) (I 43 3) s e k (b, t) = (k, v4) := by
              unfold gBest
              rw [hv]
              clear ih hq
              first | exact if_pos (by grind) | exact if_neg (by grind)
            rw [upF_on hk, e9] at hq
            exact ih hk _ _ (by clear ih hq; grind) hq
          · refine ⟨fun (c10 : t ≤ v4) => ?_, fun (c10 : ¬ t ≤ v4) => ?_⟩
            · refine qJ_nm (qWP_mono _) [(7, _), (6, _)] [(5, .int (k + 1)), (4, .int t), (3, .int b), (2, .int e), (1, .int s), (0, .ref 43)] rfl rfl rfl ?_
              have hk : k < I 3 2 := by clear ih hq; grind
              have hv : vBest (I 4) (I 44) (I 43 3) s e k = v4 := by
                unfold vBest
                first | exact (if_pos (by assumption)).trans (by symm; assumption) | exact (if_neg (by assumption)).trans (by symm; assumption)
              have e9 : gBest (I 4) (I 44) (I 45) (I 43 3) s e k (b, t) = (b, t) := by
                unfold gBest
                rw [hv]
                clear ih hq
                first | exact if_pos (by grind) | exact if_neg (by grind)
              rw [upF_on hk, e9] at hq
              exact ih hk _ _ (by clear ih hq; grind) hq
            · refine qJ_nm (qWP_mono _) [(7, _), (6, _)] [(5, .int (k + 1)), (4, .int v4), (3, .int k), (2, .int e), (1, .int s), (0, .ref 43)] rfl rfl rfl ?_
              have hk : k < I 3 2 := by clear ih hq; grind
              have hv : vBest (I 4) (I 44) (I 43 3) s e k = v4 := by
                unfold vBest
                first | exact (if_pos (by assumption)).trans (by symm; assumption) | exact (if_neg (by assumption)).trans (by symm; assumption)
              have e9 : gBest (I 4) (I 44) (I 45) (I 43 3) s e k (b, t) = (k, v4) := by
                unfold gBest
                rw [hv]
                clear ih hq
                first | exact if_pos (by grind) | exact if_neg (by grind)
              rw [upF_on hk, e9] at hq
              exact ih hk _ _ (by clear ih hq; grind) hq
theorem c_X1_bestOf {d z : Nat} {N : Nat → Nat} {I : Nat → Nat → Int32} {L : Nat → Nat → Int64} {R : Nat → Nat → Option Nat} {Q : qP} {s : Int32} {e : Int32} (hs : 0 ≤ I 3 2 ∧ I 3 2 ≤ 12) (hse : 0 ≤ s ∧ s < I 3 2) (he : e = 0 ∨ e = 1) (hl : ∀ x : Int32, 0 ≤ x → x < I 3 2 → 1 ≤ I 4 x.toNatClampNeg ∧ I 4 x.toNatClampNeg ≤ 4) (h : ∀ v : Int32, v = fBest (I 4) (I 44) (I 45) (I 43 3) (I 3 2) s e → Q (some (.int v)) (z, N, I, L, R)) : qWP (d + 4) 19 [.ref 43, .int s, .int e] (z, N, I, L, R) Q := by
  refine qWP_of m_X1_bestOf rfl rfl [(0, .ref 43), (1, .int s), (2, .int e)] rfl ?_
  refine qJ_run (qWP_mono _) [20] 400 ?_
  refine ⟨⟨Nat.le_refl _, Nat.le_refl _⟩, ?_⟩
  refine c_X1_neighbour fun v1 hv1 => ?_
  replace hv1 : v1 = I 45 (nX s e) := hv1.trans (if_pos (nX_n ⟨by clear h; grind, by clear h; grind⟩ he).2.1)
  refine ⟨fun (c1 : v1 = (-1)) => ?_, fun (c1 : ¬ v1 = (-1)) => ?_⟩
  · refine qJ_nm (qWP_mono _) [] [(5, .int 0), (4, .int (-1)), (3, .int (-1)), (2, .int e), (1, .int s), (0, .ref 43)] rfl rfl rfl ?_
    refine l_X1_bestOf (d := d) hs hse he hl 0 (-1) (-1) (by decide) (h _ ?_)
    unfold fBest
    exact (if_neg (by clear h; grind)).symm
  · change Q (some (.int (-1))) (z, N, I, L, R)
    refine h _ ?_
    unfold fBest
    exact (if_pos (by clear h; grind)).symm
theorem l_X1_leadsTo {d z : Nat} {N : Nat → Nat} {I : Nat → Nat → Int32} {L : Nat → Nat → Int64} {R : Nat → Nat → Option Nat} {Q : qP} {f t : Int32} (hnb : ∀ x : Int32, 0 ≤ x → x < 12 → -1 ≤ I 45 (nX x 1) ∧ I 45 (nX x 1) < 12) : ∀ (k : Int32), ∀ x : Int32, 0 ≤ k → (x = -1 ∨ (0 ≤ x ∧ x < 12)) → Q (some (.int (if leads (I 45) t (dn 12 k) x = true then 1 else 0))) (z, N, I, L, R) → qJ m_X1_leadsTo (qWP (d + 2)) Q 5 [(4, .int k), (3, .int x), (2, .int t), (1, .int f), (0, .ref 43)] [] 0 0 (z, N, I, L, R) := by
  refine up_ind (12) fun k ih => ?_
  intro x h0 hx hq
  refine qJ_run (qWP_mono _) [5] 400 ?_
  refine ⟨fun (c1 : 12 ≤ k) => ?_, fun (c1 : ¬ 12 ≤ k) => ?_⟩
  · refine ⟨by first | exact Or.inl rfl | exact Or.inr rfl | (clear ih hq; grind), ?_⟩
    change Q (some (.int 0)) (z, N, I, L, R)
    first
    | (have hk : ¬ k < 12 := by clear ih hq; grind
       rw [dn_0 hk] at hq
       exact hq)
    | (have hk : k < 12 := by clear ih hq; grind
       rw [dn_s hk, leads_s] at hq
       first
       | (rw [if_pos (show x = -1 by assumption)] at hq; exact hq)
       | (rw [if_neg (show ¬ x = -1 by assumption), if_pos (show x = t by clear ih hq; grind)] at hq; exact hq))
  · refine ⟨fun (c2 : x = (-1)) => ?_, fun (c2 : ¬ x = (-1)) => ?_⟩
    · refine ⟨by first | exact Or.inl rfl | exact Or.inr rfl | (clear ih hq; grind), ?_⟩
      change Q (some (.int 0)) (z, N, I, L, R)
      first
      | (have hk : ¬ k < 12 := by clear ih hq; grind
         rw [dn_0 hk] at hq
         exact hq)
      | (have hk : k < 12 := by clear ih hq; grind
         rw [dn_s hk, leads_s] at hq
         first
         | (rw [if_pos (show x = -1 by assumption)] at hq; exact hq)
         | (rw [if_neg (show ¬ x = -1 by assumption), if_pos (show x = t by clear ih hq; grind)] at hq; exact hq))
    · refine ⟨fun (c3 : ¬ x = t) => ?_, fun (c3 : x = t) => ?_⟩
      · refine ⟨⟨Nat.le_refl _, Nat.le_refl _⟩, ?_⟩
        refine c_X1_neighbour fun v1 hv1 => ?_
        replace hv1 : v1 = I 45 (nX x 1) := hv1.trans (if_pos (nX_n ⟨by clear ih hq; grind, by clear ih hq; grind⟩ (Or.inr rfl)).2.1)
        have hk : k < 12 := by clear ih hq; grind
        rw [dn_s hk, leads_s, if_neg (show ¬ x = -1 by assumption), if_neg (show ¬ x = t by assumption), ← hv1] at hq
        have hx2 : 0 ≤ x ∧ x < 12 := by clear ih hq; grind
        exact ih hk _ (by clear ih hq; grind) (by have := hnb x hx2.1 hx2.2; clear ih hq; grind) hq
      · refine ⟨by first | exact Or.inl rfl | exact Or.inr rfl | (clear ih hq; grind), ?_⟩
        change Q (some (.int 1)) (z, N, I, L, R)
        first
        | (have hk : ¬ k < 12 := by clear ih hq; grind
           rw [dn_0 hk] at hq
           exact hq)
        | (have hk : k < 12 := by clear ih hq; grind
           rw [dn_s hk, leads_s] at hq
           first
           | (rw [if_pos (show x = -1 by assumption)] at hq; exact hq)
           | (rw [if_neg (show ¬ x = -1 by assumption), if_pos (show x = t by clear ih hq; grind)] at hq; exact hq))
theorem c_X1_leadsTo {d z : Nat} {N : Nat → Nat} {I : Nat → Nat → Int32} {L : Nat → Nat → Int64} {R : Nat → Nat → Option Nat} {Q : qP} {f : Int32} {t : Int32} (hnb : ∀ x : Int32, 0 ≤ x → x < 12 → -1 ≤ I 45 (nX x 1) ∧ I 45 (nX x 1) < 12) (hf : 0 ≤ f ∧ f < 12) (h : ∀ v : Int32, v = (if leads (I 45) t 12 f = true then 1 else 0) → Q (some (.int v)) (z, N, I, L, R)) : qWP (d + 3) 21 [.ref 43, .int f, .int t] (z, N, I, L, R) Q := by
  refine qWP_of m_X1_leadsTo rfl rfl [(0, .ref 43), (1, .int f), (2, .int t)] rfl ?_
  refine qJ_run (qWP_mono _) [5] 400 ?_
  refine qJ_nm (qWP_mono _) [] [(4, .int 0), (3, .int f), (2, .int t), (1, .int f), (0, .ref 43)] rfl rfl rfl ?_
  exact l_X1_leadsTo (d := d) hnb 0 _ (by decide) (Or.inr hf) (h _ rfl)
def gTie (nb : Nat → Int32) (k c : Int32) : Int32 := if nb (nX k 1) = -1 then c else c + 1
def gTieR (rt : Nat → Int32) (k c : Int32) : Int32 := if 0 ≤ rt k.toNatClampNeg then c + 1 else c
theorem tie_rel {n tl tl' : Int32} {l mk mk' nb rt lf : Nat → Int32} (h : REd n l tl tl' mk mk' nb rt lf) (hn : 0 ≤ n ∧ n ≤ 12) : upF n (gTieR rt) 0 0 = upF n (gTie nb) 0 0 := by
  refine upF_rel (fun _ (x y : Int32) => x = y) (fun k x y h0 hk e => ?_) 0 0 0 (by decide) hn.1 rfl
  subst e
  unfold gTie gTieR
  rw [(ed_nb h hn.2 h0 hk).2]
  have := (h.2.2.2.2.1 k h0 hk).2.2.2.2.1
  split <;> split <;> grind
theorem l_X1_ties {d z : Nat} {N : Nat → Nat} {I : Nat → Nat → Int32} {L : Nat → Nat → Int64} {R : Nat → Nat → Option Nat} {Q : qP} (hs : 0 ≤ I 3 2 ∧ I 3 2 ≤ 12) : ∀ (k : Int32), ∀ c : Int32, 0 ≤ k → Q (some (.int (upF (I 3 2) (gTie (I 45)) k c))) (z, N, I, L, R) → qJ m_X1_ties (qWP (d + 1)) Q 4 [(2, .int k), (1, .int c), (0, .ref 43)] [] 0 0 (z, N, I, L, R) := by
  refine up_ind (I 3 2) fun k ih => ?_
  intro c h0 hq
  refine qJ_run (qWP_mono _) [4] 400 ?_
  refine ⟨⟨Nat.le_refl _, Nat.le_refl _⟩, ?_⟩
  refine c_X6_size fun v1 hv1 => ?_
  refine ⟨fun (c1 : v1 ≤ k) => ?_, fun (c1 : ¬ v1 ≤ k) => ?_⟩
  · change Q (some (.int c)) (z, N, I, L, R)
    rw [upF_ge (by clear ih hq; grind)] at hq
    exact hq
  · refine ⟨⟨Nat.le_refl _, Nat.le_refl _⟩, ?_⟩
    refine c_X1_neighbour fun v2 hv2 => ?_
    replace hv2 : v2 = I 45 (nX k 1) := hv2.trans (if_pos (nX_n ⟨by clear ih hq; grind, by clear ih hq; grind⟩ (Or.inr rfl)).2.1)
    refine ⟨fun (c2 : v2 = (-1)) => ?_, fun (c2 : ¬ v2 = (-1)) => ?_⟩
    · have hk : k < I 3 2 := by clear ih hq; grind
      have e : gTie (I 45) k c = c := by
        unfold gTie
        clear ih hq
        first | exact if_pos (by grind) | exact if_neg (by grind)
      rw [upF_on hk, e] at hq
      exact ih hk _ (by clear ih hq; grind) hq
    · have hk : k < I 3 2 := by clear ih hq; grind
      have e : gTie (I 45) k c = (c + 1) := by
        unfold gTie
        clear ih hq
        first | exact if_pos (by grind) | exact if_neg (by grind)
      rw [upF_on hk, e] at hq
      exact ih hk _ (by clear ih hq; grind) hq
theorem c_X1_ties {d z : Nat} {N : Nat → Nat} {I : Nat → Nat → Int32} {L : Nat → Nat → Int64} {R : Nat → Nat → Option Nat} {Q : qP}  (hs : 0 ≤ I 3 2 ∧ I 3 2 ≤ 12) (h : ∀ v : Int32, v = upF (I 3 2) (gTie (I 45)) 0 0 → Q (some (.int v)) (z, N, I, L, R)) : qWP (d + 2) 23 [.ref 43] (z, N, I, L, R) Q := by
  refine qWP_of m_X1_ties rfl rfl [(0, .ref 43)] rfl ?_
  refine qJ_run (qWP_mono _) [4] 400 ?_
  exact l_X1_ties (d := d) hs 0 _ (by decide) (h _ rfl)
