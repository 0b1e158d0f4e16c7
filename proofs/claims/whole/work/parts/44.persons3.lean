theorem c_X12_mayBeOne {d z : Nat} {N : Nat → Nat} {I : Nat → Nat → Int32} {L : Nat → Nat → Int64} {R : Nat → Nat → Option Nat} {Q : qP} {a : Int32} {b : Int32} (hp : 0 ≤ I 65 3 ∧ I 65 3 ≤ 12) (hst_ : ∀ x : Int32, 0 ≤ x → x < I 65 3 → 0 ≤ I 89 x.toNatClampNeg ∧ I 89 x.toNatClampNeg < 12) (ha : 0 ≤ a ∧ a < I 65 3) (hb : 0 ≤ b ∧ b < I 65 3) (h : ∀ v : Int32, v = (if pOne (L 87) (L 88) (I 89) (I 82) (I 83) a b = true then 1 else 0) → Q (some (.int v)) (z, N, I, L, R)) : qWP (d + 1) 227 [.ref 65, .int a, .int b] (z, N, I, L, R) Q := by
  refine qWP_of m_X12_mayBeOne rfl rfl [(0, .ref 65), (1, .int a), (2, .int b)] rfl ?_
  refine qJ_run (qWP_mono _) [] 400 ?_
  refine ⟨?_, ?_⟩
  · exact vb (x := a) (N := 12) 12 (by decide) (by have h8 := hst_ a ha.1 ha.2; have h9 := hst_ b hb.1 hb.2; clear h; grind) (by have h8 := hst_ a ha.1 ha.2; have h9 := hst_ b hb.1 hb.2; clear h; grind)
  refine ⟨?_, ?_⟩
  · exact vb (x := b) (N := 12) 12 (by decide) (by have h8 := hst_ a ha.1 ha.2; have h9 := hst_ b hb.1 hb.2; clear h; grind) (by have h8 := hst_ a ha.1 ha.2; have h9 := hst_ b hb.1 hb.2; clear h; grind)
  refine ⟨fun (c1 : ¬ (lg_cmp (L 87 ((a).toNatClampNeg)) (L 87 ((b).toNatClampNeg))) = 0) => ?_, fun (c1 : (lg_cmp (L 87 ((a).toNatClampNeg)) (L 87 ((b).toNatClampNeg))) = 0) => ?_⟩
  · refine ⟨by first | exact Or.inl rfl | exact Or.inr rfl | (clear h; grind), ?_⟩
    change Q (some (.int 0)) (z, N, I, L, R)
    refine h _ ?_
    (try simp only [lg_eq] at *)
    unfold pOne
    clear h
    simp only [decide_eq_true_eq]
    grind
  · refine ⟨?_, ?_⟩
    · exact vb (x := a) (N := 12) 12 (by decide) (by have h8 := hst_ a ha.1 ha.2; have h9 := hst_ b hb.1 hb.2; clear h; grind) (by have h8 := hst_ a ha.1 ha.2; have h9 := hst_ b hb.1 hb.2; clear h; grind)
    refine ⟨?_, ?_⟩
    · exact vb (x := b) (N := 12) 12 (by decide) (by have h8 := hst_ a ha.1 ha.2; have h9 := hst_ b hb.1 hb.2; clear h; grind) (by have h8 := hst_ a ha.1 ha.2; have h9 := hst_ b hb.1 hb.2; clear h; grind)
    refine ⟨fun (c2 : (lg_cmp (L 88 ((a).toNatClampNeg)) (L 88 ((b).toNatClampNeg))) = 0) => ?_, fun (c2 : ¬ (lg_cmp (L 88 ((a).toNatClampNeg)) (L 88 ((b).toNatClampNeg))) = 0) => ?_⟩
    · refine ⟨?_, ?_⟩
      · exact vb (x := a) (N := 12) 12 (by decide) (by have h8 := hst_ a ha.1 ha.2; have h9 := hst_ b hb.1 hb.2; clear h; grind) (by have h8 := hst_ a ha.1 ha.2; have h9 := hst_ b hb.1 hb.2; clear h; grind)
      refine ⟨?_, ?_⟩
      · exact vb (x := b) (N := 12) 12 (by decide) (by have h8 := hst_ a ha.1 ha.2; have h9 := hst_ b hb.1 hb.2; clear h; grind) (by have h8 := hst_ a ha.1 ha.2; have h9 := hst_ b hb.1 hb.2; clear h; grind)
      refine ⟨?_, ?_⟩
      · exact vb (x := I 89 ((a).toNatClampNeg)) (N := 12) 12 (by decide) (by have h8 := hst_ a ha.1 ha.2; have h9 := hst_ b hb.1 hb.2; clear h; grind) (by have h8 := hst_ a ha.1 ha.2; have h9 := hst_ b hb.1 hb.2; clear h; grind)
      refine ⟨?_, ?_⟩
      · exact vb (x := I 89 ((b).toNatClampNeg)) (N := 12) 12 (by decide) (by have h8 := hst_ a ha.1 ha.2; have h9 := hst_ b hb.1 hb.2; clear h; grind) (by have h8 := hst_ a ha.1 ha.2; have h9 := hst_ b hb.1 hb.2; clear h; grind)
      refine ⟨fun (c3 : 60 ≤ ((I 82 ((I 89 ((a).toNatClampNeg)).toNatClampNeg)) - (I 83 ((I 89 ((b).toNatClampNeg)).toNatClampNeg)))) => ?_, fun (c3 : ¬ 60 ≤ ((I 82 ((I 89 ((a).toNatClampNeg)).toNatClampNeg)) - (I 83 ((I 89 ((b).toNatClampNeg)).toNatClampNeg)))) => ?_⟩
      · refine ⟨by first | exact Or.inl rfl | exact Or.inr rfl | (clear h; grind), ?_⟩
        change Q (some (.int 0)) (z, N, I, L, R)
        refine h _ ?_
        (try simp only [lg_eq] at *)
        unfold pOne
        clear h
        simp only [decide_eq_true_eq]
        grind
      · refine ⟨?_, ?_⟩
        · exact vb (x := I 89 ((b).toNatClampNeg)) (N := 12) 12 (by decide) (by have h8 := hst_ a ha.1 ha.2; have h9 := hst_ b hb.1 hb.2; clear h; grind) (by have h8 := hst_ a ha.1 ha.2; have h9 := hst_ b hb.1 hb.2; clear h; grind)
        refine ⟨?_, ?_⟩
        · exact vb (x := I 89 ((a).toNatClampNeg)) (N := 12) 12 (by decide) (by have h8 := hst_ a ha.1 ha.2; have h9 := hst_ b hb.1 hb.2; clear h; grind) (by have h8 := hst_ a ha.1 ha.2; have h9 := hst_ b hb.1 hb.2; clear h; grind)
        refine ⟨fun (c4 : 60 ≤ ((I 82 ((I 89 ((b).toNatClampNeg)).toNatClampNeg)) - (I 83 ((I 89 ((a).toNatClampNeg)).toNatClampNeg)))) => ?_, fun (c4 : ¬ 60 ≤ ((I 82 ((I 89 ((b).toNatClampNeg)).toNatClampNeg)) - (I 83 ((I 89 ((a).toNatClampNeg)).toNatClampNeg)))) => ?_⟩
        · refine ⟨by first | exact Or.inl rfl | exact Or.inr rfl | (clear h; grind), ?_⟩
          change Q (some (.int 0)) (z, N, I, L, R)
          refine h _ ?_
          (try simp only [lg_eq] at *)
          unfold pOne
          clear h
          simp only [decide_eq_true_eq]
          grind
        · refine ⟨by first | exact Or.inl rfl | exact Or.inr rfl | (clear h; grind), ?_⟩
          change Q (some (.int 1)) (z, N, I, L, R)
          refine h _ ?_
          (try simp only [lg_eq] at *)
          unfold pOne
          clear h
          simp only [decide_eq_true_eq]
          grind
    · refine ⟨?_, ?_⟩
      · exact vb (x := a) (N := 12) 12 (by decide) (by have h8 := hst_ a ha.1 ha.2; have h9 := hst_ b hb.1 hb.2; clear h; grind) (by have h8 := hst_ a ha.1 ha.2; have h9 := hst_ b hb.1 hb.2; clear h; grind)
      refine ⟨fun (c5 : (lg_cmp (L 88 ((a).toNatClampNeg)) 0) = 0) => ?_, fun (c5 : ¬ (lg_cmp (L 88 ((a).toNatClampNeg)) 0) = 0) => ?_⟩
      · refine ⟨?_, ?_⟩
        · exact vb (x := a) (N := 12) 12 (by decide) (by have h8 := hst_ a ha.1 ha.2; have h9 := hst_ b hb.1 hb.2; clear h; grind) (by have h8 := hst_ a ha.1 ha.2; have h9 := hst_ b hb.1 hb.2; clear h; grind)
        refine ⟨?_, ?_⟩
        · exact vb (x := b) (N := 12) 12 (by decide) (by have h8 := hst_ a ha.1 ha.2; have h9 := hst_ b hb.1 hb.2; clear h; grind) (by have h8 := hst_ a ha.1 ha.2; have h9 := hst_ b hb.1 hb.2; clear h; grind)
        refine ⟨?_, ?_⟩
        · exact vb (x := I 89 ((a).toNatClampNeg)) (N := 12) 12 (by decide) (by have h8 := hst_ a ha.1 ha.2; have h9 := hst_ b hb.1 hb.2; clear h; grind) (by have h8 := hst_ a ha.1 ha.2; have h9 := hst_ b hb.1 hb.2; clear h; grind)
        refine ⟨?_, ?_⟩
        · exact vb (x := I 89 ((b).toNatClampNeg)) (N := 12) 12 (by decide) (by have h8 := hst_ a ha.1 ha.2; have h9 := hst_ b hb.1 hb.2; clear h; grind) (by have h8 := hst_ a ha.1 ha.2; have h9 := hst_ b hb.1 hb.2; clear h; grind)
        refine ⟨fun (c6 : 60 ≤ ((I 82 ((I 89 ((a).toNatClampNeg)).toNatClampNeg)) - (I 83 ((I 89 ((b).toNatClampNeg)).toNatClampNeg)))) => ?_, fun (c6 : ¬ 60 ≤ ((I 82 ((I 89 ((a).toNatClampNeg)).toNatClampNeg)) - (I 83 ((I 89 ((b).toNatClampNeg)).toNatClampNeg)))) => ?_⟩
        · refine ⟨by first | exact Or.inl rfl | exact Or.inr rfl | (clear h; grind), ?_⟩
          change Q (some (.int 0)) (z, N, I, L, R)
          refine h _ ?_
          (try simp only [lg_eq] at *)
          unfold pOne
          clear h
          simp only [decide_eq_true_eq]
          grind
        · refine ⟨?_, ?_⟩
          · exact vb (x := I 89 ((b).toNatClampNeg)) (N := 12) 12 (by decide) (by have h8 := hst_ a ha.1 ha.2; have h9 := hst_ b hb.1 hb.2; clear h; grind) (by have h8 := hst_ a ha.1 ha.2; have h9 := hst_ b hb.1 hb.2; clear h; grind)
          refine ⟨?_, ?_⟩
          · exact vb (x := I 89 ((a).toNatClampNeg)) (N := 12) 12 (by decide) (by have h8 := hst_ a ha.1 ha.2; have h9 := hst_ b hb.1 hb.2; clear h; grind) (by have h8 := hst_ a ha.1 ha.2; have h9 := hst_ b hb.1 hb.2; clear h; grind)
          refine ⟨fun (c7 : 60 ≤ ((I 82 ((I 89 ((b).toNatClampNeg)).toNatClampNeg)) - (I 83 ((I 89 ((a).toNatClampNeg)).toNatClampNeg)))) => ?_, fun (c7 : ¬ 60 ≤ ((I 82 ((I 89 ((b).toNatClampNeg)).toNatClampNeg)) - (I 83 ((I 89 ((a).toNatClampNeg)).toNatClampNeg)))) => ?_⟩
          · refine ⟨by first | exact Or.inl rfl | exact Or.inr rfl | (clear h; grind), ?_⟩
            change Q (some (.int 0)) (z, N, I, L, R)
            refine h _ ?_
            (try simp only [lg_eq] at *)
            unfold pOne
            clear h
            simp only [decide_eq_true_eq]
            grind
          · refine ⟨by first | exact Or.inl rfl | exact Or.inr rfl | (clear h; grind), ?_⟩
            change Q (some (.int 1)) (z, N, I, L, R)
            refine h _ ?_
            (try simp only [lg_eq] at *)
            unfold pOne
            clear h
            simp only [decide_eq_true_eq]
            grind
      · refine ⟨?_, ?_⟩
        · exact vb (x := b) (N := 12) 12 (by decide) (by have h8 := hst_ a ha.1 ha.2; have h9 := hst_ b hb.1 hb.2; clear h; grind) (by have h8 := hst_ a ha.1 ha.2; have h9 := hst_ b hb.1 hb.2; clear h; grind)
        refine ⟨fun (c8 : (lg_cmp (L 88 ((b).toNatClampNeg)) 0) = 0) => ?_, fun (c8 : ¬ (lg_cmp (L 88 ((b).toNatClampNeg)) 0) = 0) => ?_⟩
        · refine ⟨?_, ?_⟩
          · exact vb (x := a) (N := 12) 12 (by decide) (by have h8 := hst_ a ha.1 ha.2; have h9 := hst_ b hb.1 hb.2; clear h; grind) (by have h8 := hst_ a ha.1 ha.2; have h9 := hst_ b hb.1 hb.2; clear h; grind)
          refine ⟨?_, ?_⟩
          · exact vb (x := b) (N := 12) 12 (by decide) (by have h8 := hst_ a ha.1 ha.2; have h9 := hst_ b hb.1 hb.2; clear h; grind) (by have h8 := hst_ a ha.1 ha.2; have h9 := hst_ b hb.1 hb.2; clear h; grind)
          refine ⟨?_, ?_⟩
          · exact vb (x := I 89 ((a).toNatClampNeg)) (N := 12) 12 (by decide) (by have h8 := hst_ a ha.1 ha.2; have h9 := hst_ b hb.1 hb.2; clear h; grind) (by have h8 := hst_ a ha.1 ha.2; have h9 := hst_ b hb.1 hb.2; clear h; grind)
          refine ⟨?_, ?_⟩
          · exact vb (x := I 89 ((b).toNatClampNeg)) (N := 12) 12 (by decide) (by have h8 := hst_ a ha.1 ha.2; have h9 := hst_ b hb.1 hb.2; clear h; grind) (by have h8 := hst_ a ha.1 ha.2; have h9 := hst_ b hb.1 hb.2; clear h; grind)
          refine ⟨fun (c9 : 60 ≤ ((I 82 ((I 89 ((a).toNatClampNeg)).toNatClampNeg)) - (I 83 ((I 89 ((b).toNatClampNeg)).toNatClampNeg)))) => ?_, fun (c9 : ¬ 60 ≤ ((I 82 ((I 89 ((a).toNatClampNeg)).toNatClampNeg)) - (I 83 ((I 89 ((b).toNatClampNeg)).toNatClampNeg)))) => ?_⟩
          · refine ⟨by first | exact Or.inl rfl | exact Or.inr rfl | (clear h; grind), ?_⟩
            change Q (some (.int 0)) (z, N, I, L, R)
            refine h _ ?_
            (try simp only [lg_eq] at *)
            unfold pOne
            clear h
            simp only [decide_eq_true_eq]
            grind
          · refine ⟨?_, ?_⟩
            · exact vb (x := I 89 ((b).toNatClampNeg)) (N := 12) 12 (by decide) (by have h8 := hst_ a ha.1 ha.2; have h9 := hst_ b hb.1 hb.2; clear h; grind) (by have h8 := hst_ a ha.1 ha.2; have h9 := hst_ b hb.1 hb.2; clear h; grind)
            refine ⟨?_, ?_⟩
            · exact vb (x := I 89 ((a).toNatClampNeg)) (N := 12) 12 (by decide) (by have h8 := hst_ a ha.1 ha.2; have h9 := hst_ b hb.1 hb.2; clear h; grind) (by have h8 := hst_ a ha.1 ha.2; have h9 := hst_ b hb.1 hb.2; clear h; grind)
            refine ⟨fun (c10 : 60 ≤ ((I 82 ((I 89 ((b).toNatClampNeg)).toNatClampNeg)) - (I 83 ((I 89 ((a).toNatClampNeg)).toNatClampNeg)))) => ?_, fun (c10 : ¬ 60 ≤ ((I 82 ((I 89 ((b).toNatClampNeg)).toNatClampNeg)) - (I 83 ((I 89 ((a).toNatClampNeg)).toNatClampNeg)))) => ?_⟩
            · refine ⟨by first | exact Or.inl rfl | exact Or.inr rfl | (clear h; grind), ?_⟩
              change Q (some (.int 0)) (z, N, I, L, R)
              refine h _ ?_
              (try simp only [lg_eq] at *)
              unfold pOne
              clear h
              simp only [decide_eq_true_eq]
              grind
            · refine ⟨by first | exact Or.inl rfl | exact Or.inr rfl | (clear h; grind), ?_⟩
              change Q (some (.int 1)) (z, N, I, L, R)
              refine h _ ?_
              (try simp only [lg_eq] at *)
              unfold pOne
              clear h
              simp only [decide_eq_true_eq]
              grind
        · refine ⟨by first | exact Or.inl rfl | exact Or.inr rfl | (clear h; grind), ?_⟩
          change Q (some (.int 0)) (z, N, I, L, R)
          refine h _ ?_
          (try simp only [lg_eq] at *)
          unfold pOne
          clear h
          simp only [decide_eq_true_eq]
          grind
theorem l_X12_joinsGroup {d z : Nat} {N : Nat → Nat} {I : Nat → Nat → Int32} {L : Nat → Nat → Int64} {R : Nat → Nat → Option Nat} {Q : qP} {p g w : Int32} (hp : 0 ≤ I 65 3 ∧ I 65 3 ≤ 12) (hst_ : ∀ x : Int32, 0 ≤ x → x < I 65 3 → 0 ≤ I 89 x.toNatClampNeg ∧ I 89 x.toNatClampNeg < 12) (hpp : 0 ≤ p ∧ p < I 65 3) : ∀ (k : Int32), ∀ x : Int32, 0 ≤ k → ((x = 1 ∧ Q (some (.int (upS p (gBel (pOne (L 87) (L 88) (I 89) (I 82) (I 83)) (I 90) p g) id k 1))) (z, N, I, L, R)) ∨ (x = 0 ∧ Q (some (.int 0)) (z, N, I, L, R))) → qJ m_X12_joinsGroup (qWP (d + 1)) Q 14 [(5, .int k), (4, .int x), (3, .int w), (2, .int g), (1, .int p), (0, .ref 65)] [] 0 0 (z, N, I, L, R) := by
  refine up_ind (p) fun k ih => ?_
  intro x h0 hq
  refine qJ_run (qWP_mono _) [14] 400 ?_
  refine ⟨fun (c1 : p ≤ k) => ?_, fun (c1 : ¬ p ≤ k) => ?_⟩
  · refine ⟨by first | exact Or.inl rfl | exact Or.inr rfl | (clear ih; (rcases hq with h9 | h9 <;> simp [h9.1])), ?_⟩
    change Q (some (.int x)) (z, N, I, L, R)
    first
    | (rcases hq with ⟨h9, hq⟩ | ⟨h9, hq⟩
       · subst h9
         first
         | (rw [upS_ge (show ¬ k < p by clear ih hq; grind)] at hq; exact hq)
         | (exfalso; clear ih hq; grind)
       · subst h9; exact hq)
  · refine ⟨fun (c2 : x = 0) => ?_, fun (c2 : ¬ x = 0) => ?_⟩
    · refine ⟨by first | exact Or.inl rfl | exact Or.inr rfl | (clear ih; (rcases hq with h9 | h9 <;> simp [h9.1])), ?_⟩
      change Q (some (.int x)) (z, N, I, L, R)
      first
      | (rcases hq with ⟨h9, hq⟩ | ⟨h9, hq⟩
         · subst h9
           first
           | (rw [upS_ge (show ¬ k < p by clear ih hq; grind)] at hq; exact hq)
           | (exfalso; clear ih hq; grind)
         · subst h9; exact hq)
    · refine ⟨?_, ?_⟩
      · exact vb (x := k) (N := 12) 12 (by decide) (by clear ih hq; grind) (by clear ih hq; grind)
      refine ⟨fun (c3 : ¬ (I 90 ((k).toNatClampNeg)) = g) => ?_, fun (c3 : (I 90 ((k).toNatClampNeg)) = g) => ?_⟩
      · have hk : k < p := by clear ih hq; grind
        rcases hq with ⟨h9, hq⟩ | ⟨h9, hq⟩
        · refine ih hk _ (by clear ih hq; grind) ?_
          have hc := pOne_comm (nm := L 87) (fa := L 88) (st := I 89) (E := I 82) (U := I 83) (a := k) (b := p)
          first
          | (have e9 : gBel (pOne (L 87) (L 88) (I 89) (I 82) (I 83)) (I 90) p g k 1 = .inr 0 := if_pos (by clear ih hq; grind)
             rw [upS_out hk e9] at hq
             exact Or.inr ⟨rfl, hq⟩)
          | (have e9 : gBel (pOne (L 87) (L 88) (I 89) (I 82) (I 83)) (I 90) p g k 1 = .inl 1 := if_neg (by clear ih hq; grind)
             rw [upS_on hk e9] at hq
             exact Or.inl ⟨rfl, hq⟩)
        · exact absurd h9 (by assumption)
      · refine ⟨⟨Nat.le_refl _, Nat.le_refl _⟩, ?_⟩
        refine c_X12_mayBeOne (d := d) hp hst_ ⟨by clear ih hq; grind, by clear ih hq; grind⟩ hpp fun v1 hv1 => ?_
        refine ⟨fun (c4 : v1 = 0) => ?_, fun (c4 : ¬ v1 = 0) => ?_⟩
        · have hk : k < p := by clear ih hq; grind
          rcases hq with ⟨h9, hq⟩ | ⟨h9, hq⟩
          · refine ih hk _ (by clear ih hq; grind) ?_
            have hc := pOne_comm (nm := L 87) (fa := L 88) (st := I 89) (E := I 82) (U := I 83) (a := k) (b := p)
            first
            | (have e9 : gBel (pOne (L 87) (L 88) (I 89) (I 82) (I 83)) (I 90) p g k 1 = .inr 0 := if_pos (by clear ih hq; grind)
               rw [upS_out hk e9] at hq
               exact Or.inr ⟨rfl, hq⟩)
            | (have e9 : gBel (pOne (L 87) (L 88) (I 89) (I 82) (I 83)) (I 90) p g k 1 = .inl 1 := if_neg (by clear ih hq; grind)
               rw [upS_on hk e9] at hq
               exact Or.inl ⟨rfl, hq⟩)
          · exact absurd h9 (by assumption)
        · have hk : k < p := by clear ih hq; grind
          rcases hq with ⟨h9, hq⟩ | ⟨h9, hq⟩
          · refine ih hk _ (by clear ih hq; grind) ?_
            have hc := pOne_comm (nm := L 87) (fa := L 88) (st := I 89) (E := I 82) (U := I 83) (a := k) (b := p)
            first
            | (have e9 : gBel (pOne (L 87) (L 88) (I 89) (I 82) (I 83)) (I 90) p g k 1 = .inr 0 := if_pos (by clear ih hq; grind)
               rw [upS_out hk e9] at hq
               exact Or.inr ⟨rfl, hq⟩)
            | (have e9 : gBel (pOne (L 87) (L 88) (I 89) (I 82) (I 83)) (I 90) p g k 1 = .inl 1 := if_neg (by clear ih hq; grind)
               rw [upS_on hk e9] at hq
               exact Or.inl ⟨rfl, hq⟩)
          · exact absurd h9 (by assumption)
theorem c_X12_joinsGroup {d z : Nat} {N : Nat → Nat} {I : Nat → Nat → Int32} {L : Nat → Nat → Int64} {R : Nat → Nat → Option Nat} {Q : qP} {p : Int32} {g : Int32} {w : Int32} (hp : 0 ≤ I 65 3 ∧ I 65 3 ≤ 12) (hst_ : ∀ x : Int32, 0 ≤ x → x < I 65 3 → 0 ≤ I 89 x.toNatClampNeg ∧ I 89 x.toNatClampNeg < 12) (hpp : 0 ≤ p ∧ p < I 65 3) (hw : w = 0 ∨ w = 1) (h : ∀ v : Int32, v = (if w = 0 then fBel (pOne (L 87) (L 88) (I 89) (I 82) (I 83)) (I 90) p g else 0) → Q (some (.int v)) (z, N, I, L, R)) : qWP (d + 2) 231 [.ref 65, .int p, .int g, .int w] (z, N, I, L, R) Q := by
  refine qWP_of m_X12_joinsGroup rfl rfl [(0, .ref 65), (1, .int p), (2, .int g), (3, .int w)] rfl ?_
  refine qJ_run (qWP_mono _) [14] 400 ?_
  refine ⟨fun (c1 : ¬ w = 0) => ?_, fun (c1 : w = 0) => ?_⟩
  · refine qJ_nm (qWP_mono _) [] [(5, .int 0), (4, .int 0), (3, .int w), (2, .int g), (1, .int p), (0, .ref 65)] rfl rfl rfl ?_
    refine l_X12_joinsGroup (d := d) hp hst_ hpp 0 _ (by decide) ?_
    exact Or.inr ⟨rfl, h _ (if_neg (by assumption)).symm⟩
  · refine qJ_nm (qWP_mono _) [] [(5, .int 0), (4, .int 1), (3, .int w), (2, .int g), (1, .int p), (0, .ref 65)] rfl rfl rfl ?_
    refine l_X12_joinsGroup (d := d) hp hst_ hpp 0 _ (by decide) ?_
    exact Or.inl ⟨rfl, h _ (if_pos (by clear h; grind)).symm⟩
theorem l_X12_findGroups2 {d z : Nat} {N : Nat → Nat} {I : Nat → Nat → Int32} {L : Nat → Nat → Int64} {R : Nat → Nat → Option Nat} {Q : qP} (hp : 0 ≤ I 65 3 ∧ I 65 3 ≤ 12) (hst_ : ∀ x : Int32, 0 ≤ x → x < I 65 3 → 0 ≤ I 89 x.toNatClampNeg ∧ I 89 x.toNatClampNeg < 12) {sp : Bool} {w : Int32} (hw : (sp = true ∧ w = 0) ∨ (sp = false ∧ w = 1)) {gr : Nat → Int32} {p c : Int32} (hpp : 0 ≤ p ∧ p < I 65 3) (hout : ∀ x : Int32, qJ m_X12_findGroups (qWP (d + 2)) Q 9 [(3, .int (p + 1)), (2, .int (if c < x + 1 then x + 1 else c)), (1, .int w), (0, .ref 65)] [] 0 0 (z, N, qRow I 90 (uI gr p.toNatClampNeg x), L, R) ∨ ¬ x = fGrp sp (pOne (L 87) (L 88) (I 89) (I 82) (I 83)) gr p c) : ∀ (k x : Int32), 0 ≤ k → k ≤ c → x = k → (upS c (gGrp sp (pOne (L 87) (L 88) (I 89) (I 82) (I 83)) gr p) id k x = fGrp sp (pOne (L 87) (L 88) (I 89) (I 82) (I 83)) gr p c) → qJ m_X12_findGroups (qWP (d + 2)) Q 20 [(4, .int k), (3, .int p), (2, .int c), (1, .int w), (0, .ref 65)] [] 0 0 (z, N, qRow I 90 gr, L, R) := by
  refine up_ind c fun k ih => ?_
  intro x h0 h1 hx hq
  refine qJ_run (qWP_mono _) [9, 20, 51] 400 ?_
  refine ⟨fun (c1 : c ≤ k) => ?_, fun (c1 : ¬ c ≤ k) => ?_⟩
  · refine ⟨?_, ?_⟩
    · exact vb (x := p) (N := 12) 12 (by decide) (by clear ih hq hout; grind) (by clear ih hq hout; grind)
    refine qJ_M (M2 := (z, N, qRow I 90 (uI gr ((p).toNatClampNeg) k), L, R)) (by (try dsimp only); (simp (decide := true) only [q2_qRow, q2_qRow2, q2_qRow3]) <;> rfl) ?_
    change qJ m_X12_findGroups (qWP _) Q 51 [(4, .int k), (3, .int p), (2, .int c), (1, .int w), (0, .ref 65)] [] _ _ (z, N, qRow I 90 (uI gr ((p).toNatClampNeg) k), L, R)
    refine qJ_run (qWP_mono _) [9, 20, 51] 400 ?_
    refine qJ_nm (qWP_mono _) [(4, _)] [(3, .int (p + 1)), (2, .int (if c < (k + 1) then (k + 1) else c)), (1, .int w), (0, .ref 65)] rfl rfl rfl ?_
    have e9 : k = fGrp sp (pOne (L 87) (L 88) (I 89) (I 82) (I 83)) gr p c := by
      rw [← hq]
      first
      | (rw [upS_ge (by clear ih hq hout; grind)]; exact hx.symm)
      | (have hk : k < c := by clear ih hq hout; grind
         have e9 : gGrp sp (pOne (L 87) (L 88) (I 89) (I 82) (I 83)) gr p k x = .inr k := if_pos (by clear ih hq hout; grind)
         rw [upS_out hk e9])
    exact (hout k).resolve_right (fun h => h e9)
  · refine ⟨⟨Nat.le_refl _, Nat.le_refl _⟩, ?_⟩
    refine c_X12_joinsGroup (d := d) (by simp (decide := true) only [qRow_ne]; exact hp) (by simp (decide := true) only [qRow_ne]; exact hst_) (by simp (decide := true) only [qRow_ne]; exact hpp) (by clear ih hq hout; grind) fun v1 hv1 => ?_
    simp (decide := true) only [qRow_ne, qRow_at] at hv1
    have h01 := fBel01 (one := pOne (L 87) (L 88) (I 89) (I 82) (I 83)) (gr := gr) (p := p) (g := k) hpp.1
    refine ⟨fun (c2 : ¬ v1 = 0) => ?_, fun (c2 : v1 = 0) => ?_⟩
    · refine ⟨?_, ?_⟩
      · exact vb (x := p) (N := 12) 12 (by decide) (by clear ih hq hout; grind) (by clear ih hq hout; grind)
      refine qJ_M (M2 := (z, N, qRow I 90 (uI gr ((p).toNatClampNeg) k), L, R)) (by (try dsimp only); (simp (decide := true) only [q2_qRow, q2_qRow2, q2_qRow3]) <;> rfl) ?_
      change qJ m_X12_findGroups (qWP _) Q 51 [(4, .int k), (3, .int p), (2, .int c), (1, .int w), (0, .ref 65)] [] _ _ (z, N, qRow I 90 (uI gr ((p).toNatClampNeg) k), L, R)
      refine qJ_run (qWP_mono _) [9, 20, 51] 400 ?_
      refine qJ_nm (qWP_mono _) [(4, _)] [(3, .int (p + 1)), (2, .int (if c < (k + 1) then (k + 1) else c)), (1, .int w), (0, .ref 65)] rfl rfl rfl ?_
      have e9 : k = fGrp sp (pOne (L 87) (L 88) (I 89) (I 82) (I 83)) gr p c := by
        rw [← hq]
        first
        | (rw [upS_ge (by clear ih hq hout; grind)]; exact hx.symm)
        | (have hk : k < c := by clear ih hq hout; grind
           have e9 : gGrp sp (pOne (L 87) (L 88) (I 89) (I 82) (I 83)) gr p k x = .inr k := if_pos (by clear ih hq hout; grind)
           rw [upS_out hk e9])
      exact (hout k).resolve_right (fun h => h e9)
    · have hk : k < c := by clear ih hq hout; grind
      have e9 : gGrp sp (pOne (L 87) (L 88) (I 89) (I 82) (I 83)) gr p k x = .inl (k + 1) := if_neg (by clear ih hq hout; grind)
      rw [upS_on hk e9] at hq
      exact ih hk _ (by clear ih hq hout; grind) (by clear ih hq hout; grind) rfl hq
theorem l_X12_findGroups {d z : Nat} {N : Nat → Nat} {I : Nat → Nat → Int32} {L : Nat → Nat → Int64} {R : Nat → Nat → Option Nat} {Q : qP} (hp : 0 ≤ I 65 3 ∧ I 65 3 ≤ 12) (hst_ : ∀ x : Int32, 0 ≤ x → x < I 65 3 → 0 ≤ I 89 x.toNatClampNeg ∧ I 89 x.toNatClampNeg < 12) {sp : Bool} {w : Int32} (hw : (sp = true ∧ w = 0) ∨ (sp = false ∧ w = 1)) : ∀ (p : Int32), ∀ (gr : Nat → Int32) (c : Int32), 0 ≤ p → 0 ≤ c → Q (some (.int (upF (I 65 3) (gSrt sp (pOne (L 87) (L 88) (I 89) (I 82) (I 83))) p (gr, c)).2)) (z, N, qRow I 90 (upF (I 65 3) (gSrt sp (pOne (L 87) (L 88) (I 89) (I 82) (I 83))) p (gr, c)).1, L, R) → qJ m_X12_findGroups (qWP (d + 2)) Q 9 [(3, .int p), (2, .int c), (1, .int w), (0, .ref 65)] [] 0 0 (z, N, qRow I 90 gr, L, R) := by
  refine up_ind (I 65 3) fun p ih => ?_
  intro gr c h0 hc hq
  refine qJ_run (qWP_mono _) [9, 20] 400 ?_
  refine ⟨fun (c1 : (I 65 3) ≤ p) => ?_, fun (c1 : ¬ (I 65 3) ≤ p) => ?_⟩
  · change Q (some (.int c)) (z, N, qRow I 90 gr, L, R)
    rw [upF_ge (by clear ih hq; grind)] at hq
    exact hq
  · have hk : p < I 65 3 := by clear ih hq; grind
    rw [upF_on hk] at hq
    refine l_X12_findGroups2 (d := d) hp hst_ hw ⟨h0, hk⟩ (fun x => ?_) 0 0 (by decide) hc rfl rfl
    by_cases e9 : x = fGrp sp (pOne (L 87) (L 88) (I 89) (I 82) (I 83)) gr p c
    · left
      subst e9
      have hr := fGrp_r (sp := sp) (one := pOne (L 87) (L 88) (I 89) (I 82) (I 83)) (gr := gr) (p := p) hc
      exact ih hk _ _ (by clear ih hq; grind) (by clear ih hq; generalize fGrp sp (pOne (L 87) (L 88) (I 89) (I 82) (I 83)) gr p c = g at *; split <;> grind) hq
    · exact Or.inr e9
theorem c_X12_findGroups {d z : Nat} {N : Nat → Nat} {I : Nat → Nat → Int32} {L : Nat → Nat → Int64} {R : Nat → Nat → Option Nat} {Q : qP} (hp : 0 ≤ I 65 3 ∧ I 65 3 ≤ 12) (hst_ : ∀ x : Int32, 0 ≤ x → x < I 65 3 → 0 ≤ I 89 x.toNatClampNeg ∧ I 89 x.toNatClampNeg < 12) (hs : 0 ≤ I 65 0 ∧ I 65 0 ≤ 12) (hb : okB (I 65 0) (I 84) (I 85) (I 86) (I 65 4)) (hyl : yLn (I 65 0).toNatClampNeg (I 80) (I 81)) (h : ∀ (v : Int32) (E U : Nat → Int32), yO (I 65 0).toNatClampNeg (I 80) (I 81) (I 84) (I 85) (I 86) (I 65 4) (1 <<< (I 65 4 &&& 31) - 1) (I 65 0) 0 1 v E U → Q (some (.int (fSrt (decide (v = 0)) (pOne (L 87) (L 88) (I 89) E U) (I 65 3) (I 90)).2)) (z, N, qRow (qRow (qRow I 82 E) 83 U) 90 (fSrt (decide (v = 0)) (pOne (L 87) (L 88) (I 89) E U) (I 65 3) (I 90)).1, L, R)) : qWP (d + 3) 230 [.ref 65] (z, N, I, L, R) Q := by
  refine qWP_of m_X12_findGroups rfl rfl [(0, .ref 65)] rfl ?_
  refine qJ_run (qWP_mono _) [9] 400 ?_
  refine ⟨⟨Nat.le_refl _, Nat.le_refl _⟩, ?_⟩
  refine c_X12_clashAll (d := d) hs hb hyl fun v1 E U hy1 hw1 => ?_
  refine qJ_M (M2 := (z, N, qRow (qRow (qRow I 82 E) 83 U) 90 (I 90), L, R)) (by (try dsimp only); rw [show I 90 = qRow (qRow I 82 E) 83 U 90 from by simp (decide := true) only [qRow_ne], qRow_self]) ?_
  have hw : (decide (v1 = 0) = true ∧ v1 = 0) ∨ (decide (v1 = 0) = false ∧ v1 = 1) := by
    rcases hw1 with e1 | e1
    · exact Or.inl ⟨decide_eq_true e1, e1⟩
    · exact Or.inr ⟨by rw [e1]; decide, e1⟩
  exact l_X12_findGroups (d := d) (I := qRow (qRow I 82 E) 83 U) hp hst_ hw 0 (I 90) 0 (by decide) (by decide) (h v1 E U hy1)
theorem c_X12_one {d z : Nat} {N : Nat → Nat} {I : Nat → Nat → Int32} {L : Nat → Nat → Int64} {R : Nat → Nat → Option Nat} {Q : qP} {a : Int32} {b : Int32} (hp : 0 ≤ I 65 3 ∧ I 65 3 ≤ 12) (hst_ : ∀ x : Int32, 0 ≤ x → x < I 65 3 → 0 ≤ I 89 x.toNatClampNeg ∧ I 89 x.toNatClampNeg < 12) (hs : 0 ≤ I 65 0 ∧ I 65 0 ≤ 12) (hb : okB (I 65 0) (I 84) (I 85) (I 86) (I 65 4)) (hyl : yLn (I 65 0).toNatClampNeg (I 80) (I 81)) (h0 : ¬ ((0 ≤ a ∧ a < I 65 3) ∧ (0 ≤ b ∧ b < I 65 3) ∧ ¬ a = b) → Q (some (.int (-2))) (z, N, I, L, R)) (h1 : (0 ≤ a ∧ a < I 65 3) ∧ (0 ≤ b ∧ b < I 65 3) ∧ ¬ a = b → ∀ (v : Int32) (E U : Nat → Int32), yO (I 65 0).toNatClampNeg (I 80) (I 81) (I 84) (I 85) (I 86) (I 65 4) (1 <<< (I 65 4 &&& 31) - 1) (I 65 0) 0 1 v E U → Q (some (.int (if v = 0 ∧ pOne (L 87) (L 88) (I 89) E U a b = true then 1 else 0))) (z, N, qRow (qRow I 82 E) 83 U, L, R)) : qWP (d + 3) 229 [.ref 65, .int a, .int b] (z, N, I, L, R) Q := by
  refine qWP_of m_X12_one rfl rfl [(0, .ref 65), (1, .int a), (2, .int b)] rfl ?_
  refine qJ_run (qWP_mono _) [] 400 ?_
  refine ⟨⟨Nat.le_refl _, Nat.le_refl _⟩, ?_⟩
  refine c_X12_isPerson fun v1 hv1 => ?_
  refine ⟨fun (c1 : v1 = 0) => ?_, fun (c1 : ¬ v1 = 0) => ?_⟩
  · change Q (some (.int (-2))) (z, N, I, L, R)
    exact h0 (by clear h0 h1; grind)
  · refine ⟨⟨Nat.le_refl _, Nat.le_refl _⟩, ?_⟩
    refine c_X12_isPerson fun v2 hv2 => ?_
    refine ⟨fun (c2 : v2 = 0) => ?_, fun (c2 : ¬ v2 = 0) => ?_⟩
    · change Q (some (.int (-2))) (z, N, I, L, R)
      exact h0 (by clear h0 h1; grind)
    · refine ⟨fun (c3 : ¬ a = b) => ?_, fun (c3 : a = b) => ?_⟩
      · refine ⟨⟨Nat.le_refl _, Nat.le_refl _⟩, ?_⟩
        refine c_X12_clashAll (d := d) hs hb hyl fun v1 E U hy1 hw1 => ?_
        refine ⟨fun (c4 : ¬ v1 = 0) => ?_, fun (c4 : v1 = 0) => ?_⟩
        · change Q (some (.int 0)) (z, N, qRow (qRow I 82 E) 83 U, L, R)
          have hg : (0 ≤ a ∧ a < I 65 3) ∧ (0 ≤ b ∧ b < I 65 3) ∧ ¬ a = b := by clear h0 h1; grind
          have hh := h1 hg v1 E U hy1
          rw [if_neg (by clear h0 h1; grind)] at hh
          exact hh
        · refine ⟨⟨Nat.le_refl _, Nat.le_refl _⟩, ?_⟩
          have hg0 : (0 ≤ a ∧ a < I 65 3) ∧ (0 ≤ b ∧ b < I 65 3) ∧ ¬ a = b := by clear h0 h1; grind
          refine c_X12_mayBeOne (d := d + 1) (I := qRow (qRow I 82 E) 83 U) hp hst_ hg0.1 hg0.2.1 fun v4 hv4 => ?_
          replace hv4 : v4 = if pOne (L 87) (L 88) (I 89) E U a b = true then 1 else 0 := hv4
          refine ⟨fun (c5 : v4 = 0) => ?_, fun (c5 : ¬ v4 = 0) => ?_⟩
          · change Q (some (.int 0)) (z, N, qRow (qRow I 82 E) 83 U, L, R)
            have hg : (0 ≤ a ∧ a < I 65 3) ∧ (0 ≤ b ∧ b < I 65 3) ∧ ¬ a = b := by clear h0 h1; grind
            have hh := h1 hg v1 E U hy1
            rw [if_neg (by clear h0 h1; grind)] at hh
            exact hh
          · change Q (some (.int 1)) (z, N, qRow (qRow I 82 E) 83 U, L, R)
            have hg : (0 ≤ a ∧ a < I 65 3) ∧ (0 ≤ b ∧ b < I 65 3) ∧ ¬ a = b := by clear h0 h1; grind
            have hh := h1 hg v1 E U hy1
            rw [if_pos (by clear h0 h1; grind)] at hh
            exact hh
      · change Q (some (.int (-2))) (z, N, I, L, R)
        exact h0 (by clear h0 h1; grind)
theorem c_X12_group {d z : Nat} {N : Nat → Nat} {I : Nat → Nat → Int32} {L : Nat → Nat → Int64} {R : Nat → Nat → Option Nat} {Q : qP} {p : Int32} (hp : 0 ≤ I 65 3 ∧ I 65 3 ≤ 12) (hst_ : ∀ x : Int32, 0 ≤ x → x < I 65 3 → 0 ≤ I 89 x.toNatClampNeg ∧ I 89 x.toNatClampNeg < 12) (hs : 0 ≤ I 65 0 ∧ I 65 0 ≤ 12) (hb : okB (I 65 0) (I 84) (I 85) (I 86) (I 65 4)) (hyl : yLn (I 65 0).toNatClampNeg (I 80) (I 81)) (h0 : ¬ (0 ≤ p ∧ p < I 65 3) → Q (some (.int (-2))) (z, N, I, L, R)) (h1 : (0 ≤ p ∧ p < I 65 3) → ∀ (v : Int32) (E U : Nat → Int32), yO (I 65 0).toNatClampNeg (I 80) (I 81) (I 84) (I 85) (I 86) (I 65 4) (1 <<< (I 65 4 &&& 31) - 1) (I 65 0) 0 1 v E U → Q (some (.int ((fSrt (decide (v = 0)) (pOne (L 87) (L 88) (I 89) E U) (I 65 3) (I 90)).1 p.toNatClampNeg))) (z, N, qRow (qRow (qRow I 82 E) 83 U) 90 (fSrt (decide (v = 0)) (pOne (L 87) (L 88) (I 89) E U) (I 65 3) (I 90)).1, L, R)) : qWP (d + 4) 232 [.ref 65, .int p] (z, N, I, L, R) Q := by
  refine qWP_of m_X12_group rfl rfl [(0, .ref 65), (1, .int p)] rfl ?_
  refine qJ_run (qWP_mono _) [] 400 ?_
  refine ⟨⟨Nat.le_refl _, Nat.le_refl _⟩, ?_⟩
  refine c_X12_isPerson fun v1 hv1 => ?_
  refine ⟨fun (c1 : ¬ v1 = 0) => ?_, fun (c1 : v1 = 0) => ?_⟩
  · refine ⟨⟨Nat.le_refl _, Nat.le_refl _⟩, ?_⟩
    refine c_X12_findGroups (d := d) hp hst_ hs hb hyl fun v E U hy1 => ?_
    refine ⟨?_, ?_⟩
    · exact vb (x := p) (N := 12) 12 (by decide) (by clear h0 h1; grind) (by clear h0 h1; grind)
    change Q (some (.int (((fSrt (decide (v = 0)) (pOne (L 87) (L 88) (I 89) E U) (I 65 3) (I 90)).1) ((p).toNatClampNeg)))) (z, N, qRow (qRow (qRow I 82 E) 83 U) 90 ((fSrt (decide (v = 0)) (pOne (L 87) (L 88) (I 89) E U) (I 65 3) (I 90)).1), L, R)
    have hg : (0 ≤ p ∧ p < I 65 3) := by clear h0 h1; grind
    exact h1 hg v E U hy1
  · change Q (some (.int (-2))) (z, N, I, L, R)
    exact h0 (by clear h0 h1; grind)
theorem l_X12_father {d z : Nat} {N : Nat → Nat} {I : Nat → Nat → Int32} {L : Nat → Nat → Int64} {R : Nat → Nat → Option Nat} {Q : qP} {p : Int32} {E U : Nat → Int32} (hp : 0 ≤ I 65 3 ∧ I 65 3 ≤ 12) (hst_ : ∀ x : Int32, 0 ≤ x → x < I 65 3 → 0 ≤ I 89 x.toNatClampNeg ∧ I 89 x.toNatClampNeg < 12) (hpp : 0 ≤ p ∧ p < I 65 3) : ∀ (k : Int32), ∀ x : Int32, 0 ≤ k → x = -1 → Q (some (.int (upS (I 65 3) (gFa (L 87) (L 88) (I 89) E U p) id k x))) (z, N, qRow (qRow I 82 E) 83 U, L, R) → qJ m_X12_father (qWP (d + 2)) Q 40 [(3, .int k), (2, .int (I 89 p.toNatClampNeg)), (1, .int p), (0, .ref 65)] [] 0 0 (z, N, qRow (qRow I 82 E) 83 U, L, R) := by
  refine up_ind (I 65 3) fun k ih => ?_
  intro x h0 hx hq
  refine qJ_run (qWP_mono _) [40] 400 ?_
  refine ⟨fun (c1 : (I 65 3) ≤ k) => ?_, fun (c1 : ¬ (I 65 3) ≤ k) => ?_⟩
  · change Q (some (.int (-1))) (z, N, qRow (qRow I 82 E) 83 U, L, R)
    rw [upS_ge (by clear ih hq; grind)] at hq
    subst hx
    exact hq
  · refine ⟨?_, ?_⟩
    · exact vb (x := k) (N := 12) 12 (by decide) (by have h8 := hst_ p hpp.1 hpp.2; have h9 := fun hk => hst_ k h0 hk; clear ih hq; grind) (by have h8 := hst_ p hpp.1 hpp.2; have h9 := fun hk => hst_ k h0 hk; clear ih hq; grind)
    refine ⟨fun (c2 : k = p) => ?_, fun (c2 : ¬ k = p) => ?_⟩
    · refine qJ_nm (qWP_mono _) [(4, _)] [(3, .int (k + 1)), (2, .int (I 89 p.toNatClampNeg)), (1, .int p), (0, .ref 65)] rfl rfl rfl ?_
      have hk : k < I 65 3 := by clear ih hq; grind
      (try simp only [lg_eq] at *)
      have e9 : gFa (L 87) (L 88) (I 89) E U p k x = .inl (-1) := if_neg (by unfold pAh; simp only [decide_eq_true_eq]; clear ih hq; grind)
      rw [upS_on hk e9] at hq
      exact ih hk _ (by clear ih hq; grind) rfl hq
    · refine ⟨?_, ?_⟩
      · exact vb (x := k) (N := 12) 12 (by decide) (by have h8 := hst_ p hpp.1 hpp.2; have h9 := fun hk => hst_ k h0 hk; clear ih hq; grind) (by have h8 := hst_ p hpp.1 hpp.2; have h9 := fun hk => hst_ k h0 hk; clear ih hq; grind)
      refine ⟨?_, ?_⟩
      · exact vb (x := p) (N := 12) 12 (by decide) (by have h8 := hst_ p hpp.1 hpp.2; have h9 := fun hk => hst_ k h0 hk; clear ih hq; grind) (by have h8 := hst_ p hpp.1 hpp.2; have h9 := fun hk => hst_ k h0 hk; clear ih hq; grind)
      refine ⟨fun (c3 : ¬ (lg_cmp (L 87 ((k).toNatClampNeg)) (L 88 ((p).toNatClampNeg))) = 0) => ?_, fun (c3 : (lg_cmp (L 87 ((k).toNatClampNeg)) (L 88 ((p).toNatClampNeg))) = 0) => ?_⟩
      · refine qJ_nm (qWP_mono _) [(4, _)] [(3, .int (k + 1)), (2, .int (I 89 p.toNatClampNeg)), (1, .int p), (0, .ref 65)] rfl rfl rfl ?_
        have hk : k < I 65 3 := by clear ih hq; grind
        (try simp only [lg_eq] at *)
        have e9 : gFa (L 87) (L 88) (I 89) E U p k x = .inl (-1) := if_neg (by unfold pAh; simp only [decide_eq_true_eq]; clear ih hq; grind)
        rw [upS_on hk e9] at hq
        exact ih hk _ (by clear ih hq; grind) rfl hq
      · refine ⟨?_, ?_⟩
        · exact vb (x := (I 89 p.toNatClampNeg)) (N := 12) 12 (by decide) (by have h8 := hst_ p hpp.1 hpp.2; have h9 := fun hk => hst_ k h0 hk; clear ih hq; grind) (by have h8 := hst_ p hpp.1 hpp.2; have h9 := fun hk => hst_ k h0 hk; clear ih hq; grind)
        refine ⟨?_, ?_⟩
        · exact vb (x := I 89 ((k).toNatClampNeg)) (N := 12) 12 (by decide) (by have h8 := hst_ p hpp.1 hpp.2; have h9 := fun hk => hst_ k h0 hk; clear ih hq; grind) (by have h8 := hst_ p hpp.1 hpp.2; have h9 := fun hk => hst_ k h0 hk; clear ih hq; grind)
        refine ⟨fun (c4 : 60 < ((E (((I 89 p.toNatClampNeg)).toNatClampNeg)) - (U ((I 89 ((k).toNatClampNeg)).toNatClampNeg)))) => ?_, fun (c4 : ¬ 60 < ((E (((I 89 p.toNatClampNeg)).toNatClampNeg)) - (U ((I 89 ((k).toNatClampNeg)).toNatClampNeg)))) => ?_⟩
        · refine qJ_nm (qWP_mono _) [(4, _)] [(3, .int (k + 1)), (2, .int (I 89 p.toNatClampNeg)), (1, .int p), (0, .ref 65)] rfl rfl rfl ?_
          have hk : k < I 65 3 := by clear ih hq; grind
          (try simp only [lg_eq] at *)
          have e9 : gFa (L 87) (L 88) (I 89) E U p k x = .inl (-1) := if_neg (by unfold pAh; simp only [decide_eq_true_eq]; clear ih hq; grind)
          rw [upS_on hk e9] at hq
          exact ih hk _ (by clear ih hq; grind) rfl hq
        · refine ⟨?_, ?_⟩
          · exact vb (x := (I 89 p.toNatClampNeg)) (N := 12) 12 (by decide) (by have h8 := hst_ p hpp.1 hpp.2; have h9 := fun hk => hst_ k h0 hk; clear ih hq; grind) (by have h8 := hst_ p hpp.1 hpp.2; have h9 := fun hk => hst_ k h0 hk; clear ih hq; grind)
          refine ⟨?_, ?_⟩
          · exact vb (x := I 89 ((k).toNatClampNeg)) (N := 12) 12 (by decide) (by have h8 := hst_ p hpp.1 hpp.2; have h9 := fun hk => hst_ k h0 hk; clear ih hq; grind) (by have h8 := hst_ p hpp.1 hpp.2; have h9 := fun hk => hst_ k h0 hk; clear ih hq; grind)
          refine ⟨fun (c5 : ((U (((I 89 p.toNatClampNeg)).toNatClampNeg)) - (E ((I 89 ((k).toNatClampNeg)).toNatClampNeg))) < 15) => ?_, fun (c5 : ¬ ((U (((I 89 p.toNatClampNeg)).toNatClampNeg)) - (E ((I 89 ((k).toNatClampNeg)).toNatClampNeg))) < 15) => ?_⟩
          · refine qJ_nm (qWP_mono _) [(4, _)] [(3, .int (k + 1)), (2, .int (I 89 p.toNatClampNeg)), (1, .int p), (0, .ref 65)] rfl rfl rfl ?_
            have hk : k < I 65 3 := by clear ih hq; grind
            (try simp only [lg_eq] at *)
            have e9 : gFa (L 87) (L 88) (I 89) E U p k x = .inl (-1) := if_neg (by unfold pAh; simp only [decide_eq_true_eq]; clear ih hq; grind)
            rw [upS_on hk e9] at hq
            exact ih hk _ (by clear ih hq; grind) rfl hq
          · change Q (some (.int k)) (z, N, qRow (qRow I 82 E) 83 U, L, R)
            have hk : k < I 65 3 := by clear ih hq; grind
            simp only [lg_eq] at *
            have e9 : gFa (L 87) (L 88) (I 89) E U p k x = .inr k := if_pos ⟨by assumption, by assumption, decide_eq_true ⟨by clear ih hq; grind, by clear ih hq; grind⟩⟩
            rw [upS_out hk e9] at hq
            exact hq
theorem c_X12_father {d z : Nat} {N : Nat → Nat} {I : Nat → Nat → Int32} {L : Nat → Nat → Int64} {R : Nat → Nat → Option Nat} {Q : qP} {p : Int32} (hp : 0 ≤ I 65 3 ∧ I 65 3 ≤ 12) (hst_ : ∀ x : Int32, 0 ≤ x → x < I 65 3 → 0 ≤ I 89 x.toNatClampNeg ∧ I 89 x.toNatClampNeg < 12) (hs : 0 ≤ I 65 0 ∧ I 65 0 ≤ 12) (hb : okB (I 65 0) (I 84) (I 85) (I 86) (I 65 4)) (hyl : yLn (I 65 0).toNatClampNeg (I 80) (I 81)) (h0 : ¬ (0 ≤ p ∧ p < I 65 3) → Q (some (.int (-2))) (z, N, I, L, R)) (h1 : (0 ≤ p ∧ p < I 65 3) → L 88 p.toNatClampNeg = 0 → Q (some (.int (-1))) (z, N, I, L, R)) (h2 : (0 ≤ p ∧ p < I 65 3) → ¬ L 88 p.toNatClampNeg = 0 → ∀ (v : Int32) (E U : Nat → Int32), yO (I 65 0).toNatClampNeg (I 80) (I 81) (I 84) (I 85) (I 86) (I 65 4) (1 <<< (I 65 4 &&& 31) - 1) (I 65 0) 0 1 v E U → Q (some (.int (if v = 0 then fFa (L 87) (L 88) (I 89) E U (I 65 3) p else -1))) (z, N, qRow (qRow I 82 E) 83 U, L, R)) : qWP (d + 3) 233 [.ref 65, .int p] (z, N, I, L, R) Q := by
  refine qWP_of m_X12_father rfl rfl [(0, .ref 65), (1, .int p)] rfl ?_
  refine qJ_run (qWP_mono _) [40] 400 ?_
  refine ⟨⟨Nat.le_refl _, Nat.le_refl _⟩, ?_⟩
  refine c_X12_isPerson fun v1 hv1 => ?_
  refine ⟨fun (c1 : ¬ v1 = 0) => ?_, fun (c1 : v1 = 0) => ?_⟩
  · refine ⟨?_, ?_⟩
    · exact vb (x := p) (N := 12) 12 (by decide) (by clear h0 h1 h2; grind) (by clear h0 h1 h2; grind)
    refine ⟨fun (c2 : (lg_cmp (L 88 ((p).toNatClampNeg)) 0) = 0) => ?_, fun (c2 : ¬ (lg_cmp (L 88 ((p).toNatClampNeg)) 0) = 0) => ?_⟩
    · change Q (some (.int (-1))) (z, N, I, L, R)
      simp only [lg_eq] at *
      exact h1 (by clear h0 h1 h2; grind) (by assumption)
    · refine ⟨⟨Nat.le_refl _, Nat.le_refl _⟩, ?_⟩
      refine c_X12_clashAll (d := d) hs hb hyl fun v1 E U hy1 hw1 => ?_
      refine ⟨fun (c3 : v1 = 0) => ?_, fun (c3 : ¬ v1 = 0) => ?_⟩
      · refine ⟨?_, ?_⟩
        · exact vb (x := p) (N := 12) 12 (by decide) (by clear h0 h1 h2; grind) (by clear h0 h1 h2; grind)
        refine qJ_nm (qWP_mono _) [] [(3, .int 0), (2, .int (I 89 ((p).toNatClampNeg))), (1, .int p), (0, .ref 65)] rfl rfl rfl ?_
        simp only [lg_eq] at *
        have hg : (0 ≤ p ∧ p < I 65 3) := by clear h0 h1 h2; grind
        have hh := h2 hg (by assumption) v1 E U hy1
        rw [if_pos (by clear h0 h1 h2; grind)] at hh
        exact l_X12_father (d := d) hp hst_ hg 0 (-1) (by decide) rfl hh
      · change Q (some (.int (-1))) (z, N, qRow (qRow I 82 E) 83 U, L, R)
        simp only [lg_eq] at *
        have hh := h2 (by clear h0 h1 h2; grind) (by assumption) v1 E U hy1
        rw [if_neg (by clear h0 h1 h2; grind)] at hh
        exact hh
  · change Q (some (.int (-2))) (z, N, I, L, R)
    exact h0 (by clear h0 h1 h2; grind)
