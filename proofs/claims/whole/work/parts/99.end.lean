/-! THE LAW -/
def qQ1 : qP := fun v _ => v = some (.int 1)
theorem law_stone {M : qM} {i : Int32} {uc us : Nat} (hI : qInv M) (hu : uc + 2 ≤ 600000 ∧ us + 402 ≤ 7302250) (hb1 : vp_in (i + Int32.ofInt 1) (M.2.1 0)) (hb2 : vp_in (i + Int32.ofInt 2) (M.2.1 0)) (hb3 : vp_in (i + Int32.ofInt 3) (M.2.1 0)) (hb4 : vp_in (i + Int32.ofInt 4) (M.2.1 0)) (hb5 : vp_in (i + Int32.ofInt 5) (M.2.1 0)) (hb6 : vp_in (i + Int32.ofInt 6) (M.2.1 0))
    (hn : ∀ M2, qInv M2 → M2.2.2.1 0 = M.2.2.1 0 → M2.2.1 0 = M.2.1 0 → qJ m_L_law (qWP 30) qQ1 1726 [(3, .int i), (2, .ref 65), (1, .ref 2), (0, .ref 0)] [] (uc + 0) (us + 0) M2) : qJ m_L_law (qWP 30) qQ1 200 [(3, .int i), (2, .ref 65), (1, .ref 2), (0, .ref 0)] [] uc us M := by
  have hst := hI.1
  have h2 : 2 < M.1 + 2 := Nat.lt_of_lt_of_le (by decide) hst.1
  refine qJ_run (qWP_mono _) [1726] 100 ?_
  refine ⟨hb1, ⟨hb2, ⟨h2, hst, ⟨by show uc + 0 ≤ 600000; omega, by show us + 0 ≤ 7302250; omega⟩, ?_⟩⟩⟩
  refine qWP_mono 30 _ _ _ _ _ (fun v M1 hv => ?_) (op_stone hI _ _)
  obtain ⟨r, rfl, ⟨e1, e2, hst1⟩, hv⟩ := hv
  have h3 : 65 < M1.1 + 2 := Nat.lt_of_lt_of_le (by decide) hst1.1
  rw [← e1] at hv
  rw [← e2] at hb1
  rw [← e2] at hb2
  refine ⟨hb1, ⟨hb2, ⟨h3, hst1, ⟨by show uc + 0 + 0 ≤ 600000; omega, by show us + 0 + 0 ≤ 7302250; omega⟩, ?_⟩⟩⟩
  refine qWP_mono 30 _ _ _ _ _ (fun v2 M2 hv2 => ?_) hv
  obtain ⟨rfl, ⟨e3, e4⟩, hI2⟩ := hv2
  exact ⟨fun _ => hn M2 hI2 (e3.trans e1) e4, fun h => absurd rfl h⟩
theorem law_hand {M : qM} {i : Int32} {uc us : Nat} (hI : qInv M) (hu : uc + 2 ≤ 600000 ∧ us + 402 ≤ 7302250) (hb1 : vp_in (i + Int32.ofInt 1) (M.2.1 0)) (hb2 : vp_in (i + Int32.ofInt 2) (M.2.1 0)) (hb3 : vp_in (i + Int32.ofInt 3) (M.2.1 0)) (hb4 : vp_in (i + Int32.ofInt 4) (M.2.1 0)) (hb5 : vp_in (i + Int32.ofInt 5) (M.2.1 0)) (hb6 : vp_in (i + Int32.ofInt 6) (M.2.1 0))
    (hn : ∀ M2, qInv M2 → M2.2.2.1 0 = M.2.2.1 0 → M2.2.1 0 = M.2.1 0 → qJ m_L_law (qWP 30) qQ1 1726 [(3, .int i), (2, .ref 65), (1, .ref 2), (0, .ref 0)] [] (uc + 0) (us + 0) M2) : qJ m_L_law (qWP 30) qQ1 233 [(3, .int i), (2, .ref 65), (1, .ref 2), (0, .ref 0)] [] uc us M := by
  have hst := hI.1
  have h2 : 2 < M.1 + 2 := Nat.lt_of_lt_of_le (by decide) hst.1
  refine qJ_run (qWP_mono _) [1726] 100 ?_
  refine ⟨hb1, ⟨h2, hst, ⟨by show uc + 0 ≤ 600000; omega, by show us + 0 ≤ 7302250; omega⟩, ?_⟩⟩
  refine qWP_mono 30 _ _ _ _ _ (fun v M1 hv => ?_) (op_hand hI _)
  obtain ⟨r, rfl, ⟨e1, e2, hst1⟩, hv⟩ := hv
  have h3 : 65 < M1.1 + 2 := Nat.lt_of_lt_of_le (by decide) hst1.1
  rw [← e1] at hv
  rw [← e2] at hb1
  refine ⟨hb1, ⟨h3, hst1, ⟨by show uc + 0 + 0 ≤ 600000; omega, by show us + 0 + 0 ≤ 7302250; omega⟩, ?_⟩⟩
  refine qWP_mono 30 _ _ _ _ _ (fun v2 M2 hv2 => ?_) hv
  obtain ⟨rfl, ⟨e3, e4⟩, hI2⟩ := hv2
  exact ⟨fun _ => hn M2 hI2 (e3.trans e1) e4, fun h => absurd rfl h⟩
theorem law_read {M : qM} {i : Int32} {uc us : Nat} (hI : qInv M) (hu : uc + 2 ≤ 600000 ∧ us + 402 ≤ 7302250) (hb1 : vp_in (i + Int32.ofInt 1) (M.2.1 0)) (hb2 : vp_in (i + Int32.ofInt 2) (M.2.1 0)) (hb3 : vp_in (i + Int32.ofInt 3) (M.2.1 0)) (hb4 : vp_in (i + Int32.ofInt 4) (M.2.1 0)) (hb5 : vp_in (i + Int32.ofInt 5) (M.2.1 0)) (hb6 : vp_in (i + Int32.ofInt 6) (M.2.1 0))
    (hn : ∀ M2, qInv M2 → M2.2.2.1 0 = M.2.2.1 0 → M2.2.1 0 = M.2.1 0 → qJ m_L_law (qWP 30) qQ1 1726 [(3, .int i), (2, .ref 65), (1, .ref 2), (0, .ref 0)] [] (uc + 0) (us + 0) M2) : qJ m_L_law (qWP 30) qQ1 256 [(3, .int i), (2, .ref 65), (1, .ref 2), (0, .ref 0)] [] uc us M := by
  have hst := hI.1
  have h2 : 2 < M.1 + 2 := Nat.lt_of_lt_of_le (by decide) hst.1
  refine qJ_run (qWP_mono _) [1726] 100 ?_
  refine ⟨hb1, ⟨hb2, ⟨hb3, ⟨hb4, ⟨hb5, ⟨hb6, ⟨h2, hst, ⟨by show uc + 0 ≤ 600000; omega, by show us + 0 ≤ 7302250; omega⟩, ?_⟩⟩⟩⟩⟩⟩⟩
  refine qWP_mono 30 _ _ _ _ _ (fun v M1 hv => ?_) (op_read hI _ _ _ _ _ _)
  obtain ⟨r, rfl, ⟨e1, e2, hst1⟩, hv⟩ := hv
  have h3 : 65 < M1.1 + 2 := Nat.lt_of_lt_of_le (by decide) hst1.1
  rw [← e1] at hv
  rw [← e2] at hb1
  rw [← e2] at hb2
  rw [← e2] at hb3
  rw [← e2] at hb4
  rw [← e2] at hb5
  rw [← e2] at hb6
  refine ⟨hb1, ⟨hb2, ⟨hb3, ⟨hb4, ⟨hb5, ⟨hb6, ⟨h3, hst1, ⟨by show uc + 0 + 0 ≤ 600000; omega, by show us + 0 + 0 ≤ 7302250; omega⟩, ?_⟩⟩⟩⟩⟩⟩⟩
  refine qWP_mono 30 _ _ _ _ _ (fun v2 M2 hv2 => ?_) hv
  obtain ⟨rfl, ⟨e3, e4⟩, hI2⟩ := hv2
  exact ⟨fun _ => hn M2 hI2 (e3.trans e1) e4, fun h => absurd rfl h⟩
theorem law_forget {M : qM} {i : Int32} {uc us : Nat} (hI : qInv M) (hu : uc + 2 ≤ 600000 ∧ us + 402 ≤ 7302250) (hb1 : vp_in (i + Int32.ofInt 1) (M.2.1 0)) (hb2 : vp_in (i + Int32.ofInt 2) (M.2.1 0)) (hb3 : vp_in (i + Int32.ofInt 3) (M.2.1 0)) (hb4 : vp_in (i + Int32.ofInt 4) (M.2.1 0)) (hb5 : vp_in (i + Int32.ofInt 5) (M.2.1 0)) (hb6 : vp_in (i + Int32.ofInt 6) (M.2.1 0))
    (hn : ∀ M2, qInv M2 → M2.2.2.1 0 = M.2.2.1 0 → M2.2.1 0 = M.2.1 0 → qJ m_L_law (qWP 30) qQ1 1726 [(3, .int i), (2, .ref 65), (1, .ref 2), (0, .ref 0)] [] (uc + 0) (us + 0) M2) : qJ m_L_law (qWP 30) qQ1 331 [(3, .int i), (2, .ref 65), (1, .ref 2), (0, .ref 0)] [] uc us M := by
  have hst := hI.1
  have h2 : 2 < M.1 + 2 := Nat.lt_of_lt_of_le (by decide) hst.1
  refine qJ_run (qWP_mono _) [1726] 100 ?_
  refine ⟨hb1, ⟨hb2, ⟨hb3, ⟨hb4, ⟨h2, hst, ⟨by show uc + 0 ≤ 600000; omega, by show us + 0 ≤ 7302250; omega⟩, ?_⟩⟩⟩⟩⟩
  refine qWP_mono 30 _ _ _ _ _ (fun v M1 hv => ?_) (op_forget hI _ _ _ _)
  obtain ⟨r, rfl, ⟨e1, e2, hst1⟩, hv⟩ := hv
  have h3 : 65 < M1.1 + 2 := Nat.lt_of_lt_of_le (by decide) hst1.1
  rw [← e1] at hv
  rw [← e2] at hb1
  rw [← e2] at hb2
  rw [← e2] at hb3
  rw [← e2] at hb4
  refine ⟨hb1, ⟨hb2, ⟨hb3, ⟨hb4, ⟨h3, hst1, ⟨by show uc + 0 + 0 ≤ 600000; omega, by show us + 0 + 0 ≤ 7302250; omega⟩, ?_⟩⟩⟩⟩⟩
  refine qWP_mono 30 _ _ _ _ _ (fun v2 M2 hv2 => ?_) hv
  obtain ⟨rfl, ⟨e3, e4⟩, hI2⟩ := hv2
  exact ⟨fun _ => hn M2 hI2 (e3.trans e1) e4, fun h => absurd rfl h⟩
theorem law_sign {M : qM} {i : Int32} {uc us : Nat} (hI : qInv M) (hu : uc + 2 ≤ 600000 ∧ us + 402 ≤ 7302250) (hb1 : vp_in (i + Int32.ofInt 1) (M.2.1 0)) (hb2 : vp_in (i + Int32.ofInt 2) (M.2.1 0)) (hb3 : vp_in (i + Int32.ofInt 3) (M.2.1 0)) (hb4 : vp_in (i + Int32.ofInt 4) (M.2.1 0)) (hb5 : vp_in (i + Int32.ofInt 5) (M.2.1 0)) (hb6 : vp_in (i + Int32.ofInt 6) (M.2.1 0))
    (hn : ∀ M2, qInv M2 → M2.2.2.1 0 = M.2.2.1 0 → M2.2.1 0 = M.2.1 0 → qJ m_L_law (qWP 30) qQ1 1726 [(3, .int i), (2, .ref 65), (1, .ref 2), (0, .ref 0)] [] (uc + 0) (us + 0) M2) : qJ m_L_law (qWP 30) qQ1 384 [(3, .int i), (2, .ref 65), (1, .ref 2), (0, .ref 0)] [] uc us M := by
  have hst := hI.1
  have h2 : 2 < M.1 + 2 := Nat.lt_of_lt_of_le (by decide) hst.1
  refine qJ_run (qWP_mono _) [1726] 100 ?_
  refine ⟨hb1, ⟨hb2, ⟨hb3, ⟨hb4, ⟨h2, hst, ⟨by show uc + 0 ≤ 600000; omega, by show us + 0 ≤ 7302250; omega⟩, ?_⟩⟩⟩⟩⟩
  refine qWP_mono 30 _ _ _ _ _ (fun v M1 hv => ?_) (op_sign hI _ _ _ _)
  obtain ⟨r, rfl, ⟨e1, e2, hst1⟩, hv⟩ := hv
  have h3 : 65 < M1.1 + 2 := Nat.lt_of_lt_of_le (by decide) hst1.1
  rw [← e1] at hv
  rw [← e2] at hb1
  rw [← e2] at hb2
  rw [← e2] at hb3
  rw [← e2] at hb4
  refine ⟨hb1, ⟨hb2, ⟨hb3, ⟨hb4, ⟨h3, hst1, ⟨by show uc + 0 + 0 ≤ 600000; omega, by show us + 0 + 0 ≤ 7302250; omega⟩, ?_⟩⟩⟩⟩⟩
  refine qWP_mono 30 _ _ _ _ _ (fun v2 M2 hv2 => ?_) hv
  obtain ⟨rfl, ⟨e3, e4⟩, hI2⟩ := hv2
  exact ⟨fun _ => hn M2 hI2 (e3.trans e1) e4, fun h => absurd rfl h⟩
theorem law_feed {M : qM} {i : Int32} {uc us : Nat} (hI : qInv M) (hu : uc + 2 ≤ 600000 ∧ us + 402 ≤ 7302250) (hb1 : vp_in (i + Int32.ofInt 1) (M.2.1 0)) (hb2 : vp_in (i + Int32.ofInt 2) (M.2.1 0)) (hb3 : vp_in (i + Int32.ofInt 3) (M.2.1 0)) (hb4 : vp_in (i + Int32.ofInt 4) (M.2.1 0)) (hb5 : vp_in (i + Int32.ofInt 5) (M.2.1 0)) (hb6 : vp_in (i + Int32.ofInt 6) (M.2.1 0))
    (hn : ∀ M2, qInv M2 → M2.2.2.1 0 = M.2.2.1 0 → M2.2.1 0 = M.2.1 0 → qJ m_L_law (qWP 30) qQ1 1726 [(3, .int i), (2, .ref 65), (1, .ref 2), (0, .ref 0)] [] (uc + 0) (us + 0) M2) : qJ m_L_law (qWP 30) qQ1 437 [(3, .int i), (2, .ref 65), (1, .ref 2), (0, .ref 0)] [] uc us M := by
  have hst := hI.1
  have h2 : 2 < M.1 + 2 := Nat.lt_of_lt_of_le (by decide) hst.1
  refine qJ_run (qWP_mono _) [1726] 100 ?_
  refine ⟨hb1, ⟨hb2, ⟨hb3, ⟨h2, hst, ⟨by show uc + 0 ≤ 600000; omega, by show us + 0 ≤ 7302250; omega⟩, ?_⟩⟩⟩⟩
  refine qWP_mono 30 _ _ _ _ _ (fun v M1 hv => ?_) (op_feed hI _ _)
  obtain ⟨r, rfl, ⟨e1, e2, hst1⟩, hv⟩ := hv
  have h3 : 65 < M1.1 + 2 := Nat.lt_of_lt_of_le (by decide) hst1.1
  rw [← e1] at hv
  rw [← e2] at hb1
  rw [← e2] at hb2
  rw [← e2] at hb3
  refine ⟨hb1, ⟨hb2, ⟨hb3, ⟨h3, hst1, ⟨by show uc + 0 + 0 ≤ 600000; omega, by show us + 0 + 0 ≤ 7302250; omega⟩, ?_⟩⟩⟩⟩
  refine qWP_mono 30 _ _ _ _ _ (fun v2 M2 hv2 => ?_) hv
  obtain ⟨rfl, ⟨e3, e4⟩, hI2⟩ := hv2
  exact ⟨fun _ => hn M2 hI2 (e3.trans e1) e4, fun h => absurd rfl h⟩
theorem law_formula {M : qM} {i : Int32} {uc us : Nat} (hI : qInv M) (hu : uc + 2 ≤ 600000 ∧ us + 402 ≤ 7302250) (hb1 : vp_in (i + Int32.ofInt 1) (M.2.1 0)) (hb2 : vp_in (i + Int32.ofInt 2) (M.2.1 0)) (hb3 : vp_in (i + Int32.ofInt 3) (M.2.1 0)) (hb4 : vp_in (i + Int32.ofInt 4) (M.2.1 0)) (hb5 : vp_in (i + Int32.ofInt 5) (M.2.1 0)) (hb6 : vp_in (i + Int32.ofInt 6) (M.2.1 0))
    (hn : ∀ M2, qInv M2 → M2.2.2.1 0 = M.2.2.1 0 → M2.2.1 0 = M.2.1 0 → qJ m_L_law (qWP 30) qQ1 1726 [(3, .int i), (2, .ref 65), (1, .ref 2), (0, .ref 0)] [] (uc + 2) (us + 402) M2) : qJ m_L_law (qWP 30) qQ1 500 [(3, .int i), (2, .ref 65), (1, .ref 2), (0, .ref 0)] [] uc us M := by
  have hst := hI.1
  have h2 : 2 < M.1 + 2 := Nat.lt_of_lt_of_le (by decide) hst.1
  refine qJ_run (qWP_mono _) [1726] 100 ?_
  refine ⟨h2, ⟨⟨trivial, Nat.lt_of_lt_of_le (by decide) hst.1, Nat.lt_of_lt_of_le (by decide) hst.1, Nat.lt_of_lt_of_le (by decide) hst.1, trivial⟩, hst, ⟨by show uc + 2 ≤ 600000; omega, by show us + 402 ≤ 7302250; omega⟩, ?_⟩⟩
  refine qWP_mono 30 _ _ _ _ _ (fun v M1 hv => ?_) (op_formula hI )
  obtain ⟨r, rfl, ⟨e1, e2, hst1⟩, hv⟩ := hv
  have h3 : 65 < M1.1 + 2 := Nat.lt_of_lt_of_le (by decide) hst1.1
  refine ⟨h3, hst1, ⟨by show uc + 2 + 0 ≤ 600000; omega, by show us + 402 + 0 ≤ 7302250; omega⟩, ?_⟩
  refine qWP_mono 30 _ _ _ _ _ (fun v2 M2 hv2 => ?_) hv
  obtain ⟨rfl, ⟨e3, e4⟩, hI2⟩ := hv2
  exact ⟨fun _ => hn M2 hI2 e3 e4, fun h => absurd rfl h⟩
theorem law_texts {M : qM} {i : Int32} {uc us : Nat} (hI : qInv M) (hu : uc + 2 ≤ 600000 ∧ us + 402 ≤ 7302250) (hb1 : vp_in (i + Int32.ofInt 1) (M.2.1 0)) (hb2 : vp_in (i + Int32.ofInt 2) (M.2.1 0)) (hb3 : vp_in (i + Int32.ofInt 3) (M.2.1 0)) (hb4 : vp_in (i + Int32.ofInt 4) (M.2.1 0)) (hb5 : vp_in (i + Int32.ofInt 5) (M.2.1 0)) (hb6 : vp_in (i + Int32.ofInt 6) (M.2.1 0))
    (hn : ∀ M2, qInv M2 → M2.2.2.1 0 = M.2.2.1 0 → M2.2.1 0 = M.2.1 0 → qJ m_L_law (qWP 30) qQ1 1726 [(3, .int i), (2, .ref 65), (1, .ref 2), (0, .ref 0)] [] (uc + 0) (us + 0) M2) : qJ m_L_law (qWP 30) qQ1 513 [(3, .int i), (2, .ref 65), (1, .ref 2), (0, .ref 0)] [] uc us M := by
  have hst := hI.1
  have h2 : 2 < M.1 + 2 := Nat.lt_of_lt_of_le (by decide) hst.1
  refine qJ_run (qWP_mono _) [1726] 100 ?_
  refine ⟨hb1, ⟨h2, hst, ⟨by show uc + 0 ≤ 600000; omega, by show us + 0 ≤ 7302250; omega⟩, ?_⟩⟩
  refine qWP_mono 30 _ _ _ _ _ (fun v M1 hv => ?_) (op_texts hI _)
  obtain ⟨r, rfl, ⟨e1, e2, hst1⟩, hv⟩ := hv
  have h3 : 65 < M1.1 + 2 := Nat.lt_of_lt_of_le (by decide) hst1.1
  rw [← e1] at hv
  rw [← e2] at hb1
  refine ⟨hb1, ⟨h3, hst1, ⟨by show uc + 0 + 0 ≤ 600000; omega, by show us + 0 + 0 ≤ 7302250; omega⟩, ?_⟩⟩
  refine qWP_mono 30 _ _ _ _ _ (fun v2 M2 hv2 => ?_) hv
  obtain ⟨rfl, ⟨e3, e4⟩, hI2⟩ := hv2
  exact ⟨fun _ => hn M2 hI2 (e3.trans e1) e4, fun h => absurd rfl h⟩
theorem law_text {M : qM} {i : Int32} {uc us : Nat} (hI : qInv M) (hu : uc + 2 ≤ 600000 ∧ us + 402 ≤ 7302250) (hb1 : vp_in (i + Int32.ofInt 1) (M.2.1 0)) (hb2 : vp_in (i + Int32.ofInt 2) (M.2.1 0)) (hb3 : vp_in (i + Int32.ofInt 3) (M.2.1 0)) (hb4 : vp_in (i + Int32.ofInt 4) (M.2.1 0)) (hb5 : vp_in (i + Int32.ofInt 5) (M.2.1 0)) (hb6 : vp_in (i + Int32.ofInt 6) (M.2.1 0))
    (hn : ∀ M2, qInv M2 → M2.2.2.1 0 = M.2.2.1 0 → M2.2.1 0 = M.2.1 0 → qJ m_L_law (qWP 30) qQ1 1726 [(3, .int i), (2, .ref 65), (1, .ref 2), (0, .ref 0)] [] (uc + 0) (us + 0) M2) : qJ m_L_law (qWP 30) qQ1 536 [(3, .int i), (2, .ref 65), (1, .ref 2), (0, .ref 0)] [] uc us M := by
  have hst := hI.1
  have h2 : 2 < M.1 + 2 := Nat.lt_of_lt_of_le (by decide) hst.1
  refine qJ_run (qWP_mono _) [1726] 100 ?_
  refine ⟨hb1, ⟨hb2, ⟨hb3, ⟨h2, hst, ⟨by show uc + 0 ≤ 600000; omega, by show us + 0 ≤ 7302250; omega⟩, ?_⟩⟩⟩⟩
  refine qWP_mono 30 _ _ _ _ _ (fun v M1 hv => ?_) (op_text hI _ _ _)
  obtain ⟨r, rfl, ⟨e1, e2, hst1⟩, hv⟩ := hv
  have h3 : 65 < M1.1 + 2 := Nat.lt_of_lt_of_le (by decide) hst1.1
  rw [← e1] at hv
  rw [← e2] at hb1
  rw [← e2] at hb2
  rw [← e2] at hb3
  refine ⟨hb1, ⟨hb2, ⟨hb3, ⟨h3, hst1, ⟨by show uc + 0 + 0 ≤ 600000; omega, by show us + 0 + 0 ≤ 7302250; omega⟩, ?_⟩⟩⟩⟩
  refine qWP_mono 30 _ _ _ _ _ (fun v2 M2 hv2 => ?_) hv
  obtain ⟨rfl, ⟨e3, e4⟩, hI2⟩ := hv2
  exact ⟨fun _ => hn M2 hI2 (e3.trans e1) e4, fun h => absurd rfl h⟩
theorem law_ways {M : qM} {i : Int32} {uc us : Nat} (hI : qInv M) (hu : uc + 2 ≤ 600000 ∧ us + 402 ≤ 7302250) (hb1 : vp_in (i + Int32.ofInt 1) (M.2.1 0)) (hb2 : vp_in (i + Int32.ofInt 2) (M.2.1 0)) (hb3 : vp_in (i + Int32.ofInt 3) (M.2.1 0)) (hb4 : vp_in (i + Int32.ofInt 4) (M.2.1 0)) (hb5 : vp_in (i + Int32.ofInt 5) (M.2.1 0)) (hb6 : vp_in (i + Int32.ofInt 6) (M.2.1 0))
    (hn : ∀ M2, qInv M2 → M2.2.2.1 0 = M.2.2.1 0 → M2.2.1 0 = M.2.1 0 → qJ m_L_law (qWP 30) qQ1 1726 [(3, .int i), (2, .ref 65), (1, .ref 2), (0, .ref 0)] [] (uc + 0) (us + 0) M2) : qJ m_L_law (qWP 30) qQ1 579 [(3, .int i), (2, .ref 65), (1, .ref 2), (0, .ref 0)] [] uc us M := by
  have hst := hI.1
  have h2 : 2 < M.1 + 2 := Nat.lt_of_lt_of_le (by decide) hst.1
  refine qJ_run (qWP_mono _) [1726] 100 ?_
  refine ⟨hb1, ⟨hb2, ⟨hb3, ⟨h2, hst, ⟨by show uc + 0 ≤ 600000; omega, by show us + 0 ≤ 7302250; omega⟩, ?_⟩⟩⟩⟩
  refine qWP_mono 30 _ _ _ _ _ (fun v M1 hv => ?_) (op_ways hI _ _ _)
  obtain ⟨r, rfl, ⟨e1, e2, hst1⟩, hv⟩ := hv
  have h3 : 65 < M1.1 + 2 := Nat.lt_of_lt_of_le (by decide) hst1.1
  rw [← e1] at hv
  rw [← e2] at hb1
  rw [← e2] at hb2
  rw [← e2] at hb3
  refine ⟨hb1, ⟨hb2, ⟨hb3, ⟨h3, hst1, ⟨by show uc + 0 + 0 ≤ 600000; omega, by show us + 0 + 0 ≤ 7302250; omega⟩, ?_⟩⟩⟩⟩
  refine qWP_mono 30 _ _ _ _ _ (fun v2 M2 hv2 => ?_) hv
  obtain ⟨rfl, ⟨e3, e4⟩, hI2⟩ := hv2
  exact ⟨fun _ => hn M2 hI2 (e3.trans e1) e4, fun h => absurd rfl h⟩
theorem law_way {M : qM} {i : Int32} {uc us : Nat} (hI : qInv M) (hu : uc + 2 ≤ 600000 ∧ us + 402 ≤ 7302250) (hb1 : vp_in (i + Int32.ofInt 1) (M.2.1 0)) (hb2 : vp_in (i + Int32.ofInt 2) (M.2.1 0)) (hb3 : vp_in (i + Int32.ofInt 3) (M.2.1 0)) (hb4 : vp_in (i + Int32.ofInt 4) (M.2.1 0)) (hb5 : vp_in (i + Int32.ofInt 5) (M.2.1 0)) (hb6 : vp_in (i + Int32.ofInt 6) (M.2.1 0))
    (hn : ∀ M2, qInv M2 → M2.2.2.1 0 = M.2.2.1 0 → M2.2.1 0 = M.2.1 0 → qJ m_L_law (qWP 30) qQ1 1726 [(3, .int i), (2, .ref 65), (1, .ref 2), (0, .ref 0)] [] (uc + 0) (us + 0) M2) : qJ m_L_law (qWP 30) qQ1 622 [(3, .int i), (2, .ref 65), (1, .ref 2), (0, .ref 0)] [] uc us M := by
  have hst := hI.1
  have h2 : 2 < M.1 + 2 := Nat.lt_of_lt_of_le (by decide) hst.1
  refine qJ_run (qWP_mono _) [1726] 100 ?_
  refine ⟨hb1, ⟨hb2, ⟨hb3, ⟨hb4, ⟨h2, hst, ⟨by show uc + 0 ≤ 600000; omega, by show us + 0 ≤ 7302250; omega⟩, ?_⟩⟩⟩⟩⟩
  refine qWP_mono 30 _ _ _ _ _ (fun v M1 hv => ?_) (op_way hI _ _ _ _)
  obtain ⟨r, rfl, ⟨e1, e2, hst1⟩, hv⟩ := hv
  have h3 : 65 < M1.1 + 2 := Nat.lt_of_lt_of_le (by decide) hst1.1
  rw [← e1] at hv
  rw [← e2] at hb1
  rw [← e2] at hb2
  rw [← e2] at hb3
  rw [← e2] at hb4
  refine ⟨hb1, ⟨hb2, ⟨hb3, ⟨hb4, ⟨h3, hst1, ⟨by show uc + 0 + 0 ≤ 600000; omega, by show us + 0 + 0 ≤ 7302250; omega⟩, ?_⟩⟩⟩⟩⟩
  refine qWP_mono 30 _ _ _ _ _ (fun v2 M2 hv2 => ?_) hv
  obtain ⟨rfl, ⟨e3, e4⟩, hI2⟩ := hv2
  exact ⟨fun _ => hn M2 hI2 (e3.trans e1) e4, fun h => absurd rfl h⟩
theorem law_carried {M : qM} {i : Int32} {uc us : Nat} (hI : qInv M) (hu : uc + 2 ≤ 600000 ∧ us + 402 ≤ 7302250) (hb1 : vp_in (i + Int32.ofInt 1) (M.2.1 0)) (hb2 : vp_in (i + Int32.ofInt 2) (M.2.1 0)) (hb3 : vp_in (i + Int32.ofInt 3) (M.2.1 0)) (hb4 : vp_in (i + Int32.ofInt 4) (M.2.1 0)) (hb5 : vp_in (i + Int32.ofInt 5) (M.2.1 0)) (hb6 : vp_in (i + Int32.ofInt 6) (M.2.1 0))
    (hn : ∀ M2, qInv M2 → M2.2.2.1 0 = M.2.2.1 0 → M2.2.1 0 = M.2.1 0 → qJ m_L_law (qWP 30) qQ1 1726 [(3, .int i), (2, .ref 65), (1, .ref 2), (0, .ref 0)] [] (uc + 0) (us + 0) M2) : qJ m_L_law (qWP 30) qQ1 675 [(3, .int i), (2, .ref 65), (1, .ref 2), (0, .ref 0)] [] uc us M := by
  have hst := hI.1
  have h2 : 2 < M.1 + 2 := Nat.lt_of_lt_of_le (by decide) hst.1
  refine qJ_run (qWP_mono _) [1726] 100 ?_
  refine ⟨hb1, ⟨hb2, ⟨hb3, ⟨hb4, ⟨h2, hst, ⟨by show uc + 0 ≤ 600000; omega, by show us + 0 ≤ 7302250; omega⟩, ?_⟩⟩⟩⟩⟩
  refine qWP_mono 30 _ _ _ _ _ (fun v M1 hv => ?_) (op_carried hI _ _ _ _)
  obtain ⟨r, rfl, ⟨e1, e2, hst1⟩, hv⟩ := hv
  have h3 : 65 < M1.1 + 2 := Nat.lt_of_lt_of_le (by decide) hst1.1
  rw [← e1] at hv
  rw [← e2] at hb1
  rw [← e2] at hb2
  rw [← e2] at hb3
  rw [← e2] at hb4
  refine ⟨hb1, ⟨hb2, ⟨hb3, ⟨hb4, ⟨h3, hst1, ⟨by show uc + 0 + 0 ≤ 600000; omega, by show us + 0 + 0 ≤ 7302250; omega⟩, ?_⟩⟩⟩⟩⟩
  refine qWP_mono 30 _ _ _ _ _ (fun v2 M2 hv2 => ?_) hv
  obtain ⟨rfl, ⟨e3, e4⟩, hI2⟩ := hv2
  exact ⟨fun _ => hn M2 hI2 (e3.trans e1) e4, fun h => absurd rfl h⟩
theorem law_fits {M : qM} {i : Int32} {uc us : Nat} (hI : qInv M) (hu : uc + 2 ≤ 600000 ∧ us + 402 ≤ 7302250) (hb1 : vp_in (i + Int32.ofInt 1) (M.2.1 0)) (hb2 : vp_in (i + Int32.ofInt 2) (M.2.1 0)) (hb3 : vp_in (i + Int32.ofInt 3) (M.2.1 0)) (hb4 : vp_in (i + Int32.ofInt 4) (M.2.1 0)) (hb5 : vp_in (i + Int32.ofInt 5) (M.2.1 0)) (hb6 : vp_in (i + Int32.ofInt 6) (M.2.1 0))
    (hn : ∀ M2, qInv M2 → M2.2.2.1 0 = M.2.2.1 0 → M2.2.1 0 = M.2.1 0 → qJ m_L_law (qWP 30) qQ1 1726 [(3, .int i), (2, .ref 65), (1, .ref 2), (0, .ref 0)] [] (uc + 0) (us + 0) M2) : qJ m_L_law (qWP 30) qQ1 728 [(3, .int i), (2, .ref 65), (1, .ref 2), (0, .ref 0)] [] uc us M := by
  have hst := hI.1
  have h2 : 2 < M.1 + 2 := Nat.lt_of_lt_of_le (by decide) hst.1
  refine qJ_run (qWP_mono _) [1726] 100 ?_
  refine ⟨hb1, ⟨hb2, ⟨h2, hst, ⟨by show uc + 0 ≤ 600000; omega, by show us + 0 ≤ 7302250; omega⟩, ?_⟩⟩⟩
  refine qWP_mono 30 _ _ _ _ _ (fun v M1 hv => ?_) (op_fits hI _ _)
  obtain ⟨r, rfl, ⟨e1, e2, hst1⟩, hv⟩ := hv
  have h3 : 65 < M1.1 + 2 := Nat.lt_of_lt_of_le (by decide) hst1.1
  rw [← e1] at hv
  rw [← e2] at hb1
  rw [← e2] at hb2
  refine ⟨hb1, ⟨hb2, ⟨h3, hst1, ⟨by show uc + 0 + 0 ≤ 600000; omega, by show us + 0 + 0 ≤ 7302250; omega⟩, ?_⟩⟩⟩
  refine qWP_mono 30 _ _ _ _ _ (fun v2 M2 hv2 => ?_) hv
  obtain ⟨rfl, ⟨e3, e4⟩, hI2⟩ := hv2
  exact ⟨fun _ => hn M2 hI2 (e3.trans e1) e4, fun h => absurd rfl h⟩
theorem law_edge {M : qM} {i : Int32} {uc us : Nat} (hI : qInv M) (hu : uc + 2 ≤ 600000 ∧ us + 402 ≤ 7302250) (hb1 : vp_in (i + Int32.ofInt 1) (M.2.1 0)) (hb2 : vp_in (i + Int32.ofInt 2) (M.2.1 0)) (hb3 : vp_in (i + Int32.ofInt 3) (M.2.1 0)) (hb4 : vp_in (i + Int32.ofInt 4) (M.2.1 0)) (hb5 : vp_in (i + Int32.ofInt 5) (M.2.1 0)) (hb6 : vp_in (i + Int32.ofInt 6) (M.2.1 0))
    (hn : ∀ M2, qInv M2 → M2.2.2.1 0 = M.2.2.1 0 → M2.2.1 0 = M.2.1 0 → qJ m_L_law (qWP 30) qQ1 1726 [(3, .int i), (2, .ref 65), (1, .ref 2), (0, .ref 0)] [] (uc + 0) (us + 0) M2) : qJ m_L_law (qWP 30) qQ1 761 [(3, .int i), (2, .ref 65), (1, .ref 2), (0, .ref 0)] [] uc us M := by
  have hst := hI.1
  have h2 : 2 < M.1 + 2 := Nat.lt_of_lt_of_le (by decide) hst.1
  refine qJ_run (qWP_mono _) [1726] 100 ?_
  refine ⟨hb1, ⟨hb2, ⟨hb3, ⟨hb4, ⟨h2, hst, ⟨by show uc + 0 ≤ 600000; omega, by show us + 0 ≤ 7302250; omega⟩, ?_⟩⟩⟩⟩⟩
  refine qWP_mono 30 _ _ _ _ _ (fun v M1 hv => ?_) (op_edge hI _ _ _ _)
  obtain ⟨r, rfl, ⟨e1, e2, hst1⟩, hv⟩ := hv
  have h3 : 65 < M1.1 + 2 := Nat.lt_of_lt_of_le (by decide) hst1.1
  rw [← e1] at hv
  rw [← e2] at hb1
  rw [← e2] at hb2
  rw [← e2] at hb3
  rw [← e2] at hb4
  refine ⟨hb1, ⟨hb2, ⟨hb3, ⟨hb4, ⟨h3, hst1, ⟨by show uc + 0 + 0 ≤ 600000; omega, by show us + 0 + 0 ≤ 7302250; omega⟩, ?_⟩⟩⟩⟩⟩
  refine qWP_mono 30 _ _ _ _ _ (fun v2 M2 hv2 => ?_) hv
  obtain ⟨rfl, ⟨e3, e4⟩, hI2⟩ := hv2
  exact ⟨fun _ => hn M2 hI2 (e3.trans e1) e4, fun h => absurd rfl h⟩
theorem law_tolerance {M : qM} {i : Int32} {uc us : Nat} (hI : qInv M) (hu : uc + 2 ≤ 600000 ∧ us + 402 ≤ 7302250) (hb1 : vp_in (i + Int32.ofInt 1) (M.2.1 0)) (hb2 : vp_in (i + Int32.ofInt 2) (M.2.1 0)) (hb3 : vp_in (i + Int32.ofInt 3) (M.2.1 0)) (hb4 : vp_in (i + Int32.ofInt 4) (M.2.1 0)) (hb5 : vp_in (i + Int32.ofInt 5) (M.2.1 0)) (hb6 : vp_in (i + Int32.ofInt 6) (M.2.1 0))
    (hn : ∀ M2, qInv M2 → M2.2.2.1 0 = M.2.2.1 0 → M2.2.1 0 = M.2.1 0 → qJ m_L_law (qWP 30) qQ1 1726 [(3, .int i), (2, .ref 65), (1, .ref 2), (0, .ref 0)] [] (uc + 0) (us + 0) M2) : qJ m_L_law (qWP 30) qQ1 814 [(3, .int i), (2, .ref 65), (1, .ref 2), (0, .ref 0)] [] uc us M := by
  have hst := hI.1
  have h2 : 2 < M.1 + 2 := Nat.lt_of_lt_of_le (by decide) hst.1
  refine qJ_run (qWP_mono _) [1726] 100 ?_
  refine ⟨hb1, ⟨h2, hst, ⟨by show uc + 0 ≤ 600000; omega, by show us + 0 ≤ 7302250; omega⟩, ?_⟩⟩
  refine qWP_mono 30 _ _ _ _ _ (fun v M1 hv => ?_) (op_tolerance hI _)
  obtain ⟨r, rfl, ⟨e1, e2, hst1⟩, hv⟩ := hv
  have h3 : 65 < M1.1 + 2 := Nat.lt_of_lt_of_le (by decide) hst1.1
  rw [← e1] at hv
  rw [← e2] at hb1
  refine ⟨hb1, ⟨h3, hst1, ⟨by show uc + 0 + 0 ≤ 600000; omega, by show us + 0 + 0 ≤ 7302250; omega⟩, ?_⟩⟩
  refine qWP_mono 30 _ _ _ _ _ (fun v2 M2 hv2 => ?_) hv
  obtain ⟨rfl, ⟨e3, e4⟩, hI2⟩ := hv2
  exact ⟨fun _ => hn M2 hI2 (e3.trans e1) e4, fun h => absurd rfl h⟩
theorem law_room {M : qM} {i : Int32} {uc us : Nat} (hI : qInv M) (hu : uc + 2 ≤ 600000 ∧ us + 402 ≤ 7302250) (hb1 : vp_in (i + Int32.ofInt 1) (M.2.1 0)) (hb2 : vp_in (i + Int32.ofInt 2) (M.2.1 0)) (hb3 : vp_in (i + Int32.ofInt 3) (M.2.1 0)) (hb4 : vp_in (i + Int32.ofInt 4) (M.2.1 0)) (hb5 : vp_in (i + Int32.ofInt 5) (M.2.1 0)) (hb6 : vp_in (i + Int32.ofInt 6) (M.2.1 0))
    (hn : ∀ M2, qInv M2 → M2.2.2.1 0 = M.2.2.1 0 → M2.2.1 0 = M.2.1 0 → qJ m_L_law (qWP 30) qQ1 1726 [(3, .int i), (2, .ref 65), (1, .ref 2), (0, .ref 0)] [] (uc + 0) (us + 0) M2) : qJ m_L_law (qWP 30) qQ1 837 [(3, .int i), (2, .ref 65), (1, .ref 2), (0, .ref 0)] [] uc us M := by
  have hst := hI.1
  have h2 : 2 < M.1 + 2 := Nat.lt_of_lt_of_le (by decide) hst.1
  refine qJ_run (qWP_mono _) [1726] 100 ?_
  refine ⟨hb1, ⟨hb2, ⟨h2, hst, ⟨by show uc + 0 ≤ 600000; omega, by show us + 0 ≤ 7302250; omega⟩, ?_⟩⟩⟩
  refine qWP_mono 30 _ _ _ _ _ (fun v M1 hv => ?_) (op_room hI _ _)
  obtain ⟨r, rfl, ⟨e1, e2, hst1⟩, hv⟩ := hv
  have h3 : 65 < M1.1 + 2 := Nat.lt_of_lt_of_le (by decide) hst1.1
  rw [← e1] at hv
  rw [← e2] at hb1
  rw [← e2] at hb2
  refine ⟨hb1, ⟨hb2, ⟨h3, hst1, ⟨by show uc + 0 + 0 ≤ 600000; omega, by show us + 0 + 0 ≤ 7302250; omega⟩, ?_⟩⟩⟩
  refine qWP_mono 30 _ _ _ _ _ (fun v2 M2 hv2 => ?_) hv
  obtain ⟨rfl, ⟨e3, e4⟩, hI2⟩ := hv2
  exact ⟨fun _ => hn M2 hI2 (e3.trans e1) e4, fun h => absurd rfl h⟩
theorem law_best {M : qM} {i : Int32} {uc us : Nat} (hI : qInv M) (hu : uc + 2 ≤ 600000 ∧ us + 402 ≤ 7302250) (hb1 : vp_in (i + Int32.ofInt 1) (M.2.1 0)) (hb2 : vp_in (i + Int32.ofInt 2) (M.2.1 0)) (hb3 : vp_in (i + Int32.ofInt 3) (M.2.1 0)) (hb4 : vp_in (i + Int32.ofInt 4) (M.2.1 0)) (hb5 : vp_in (i + Int32.ofInt 5) (M.2.1 0)) (hb6 : vp_in (i + Int32.ofInt 6) (M.2.1 0))
    (hn : ∀ M2, qInv M2 → M2.2.2.1 0 = M.2.2.1 0 → M2.2.1 0 = M.2.1 0 → qJ m_L_law (qWP 30) qQ1 1726 [(3, .int i), (2, .ref 65), (1, .ref 2), (0, .ref 0)] [] (uc + 0) (us + 0) M2) : qJ m_L_law (qWP 30) qQ1 870 [(3, .int i), (2, .ref 65), (1, .ref 2), (0, .ref 0)] [] uc us M := by
  have hst := hI.1
  have h2 : 2 < M.1 + 2 := Nat.lt_of_lt_of_le (by decide) hst.1
  refine qJ_run (qWP_mono _) [1726] 100 ?_
  refine ⟨hb1, ⟨hb2, ⟨h2, hst, ⟨by show uc + 0 ≤ 600000; omega, by show us + 0 ≤ 7302250; omega⟩, ?_⟩⟩⟩
  refine qWP_mono 30 _ _ _ _ _ (fun v M1 hv => ?_) (op_best hI _ _)
  obtain ⟨r, rfl, ⟨e1, e2, hst1⟩, hv⟩ := hv
  have h3 : 65 < M1.1 + 2 := Nat.lt_of_lt_of_le (by decide) hst1.1
  rw [← e1] at hv
  rw [← e2] at hb1
  rw [← e2] at hb2
  refine ⟨hb1, ⟨hb2, ⟨h3, hst1, ⟨by show uc + 0 + 0 ≤ 600000; omega, by show us + 0 + 0 ≤ 7302250; omega⟩, ?_⟩⟩⟩
  refine qWP_mono 30 _ _ _ _ _ (fun v2 M2 hv2 => ?_) hv
  obtain ⟨rfl, ⟨e3, e4⟩, hI2⟩ := hv2
  exact ⟨fun _ => hn M2 hI2 (e3.trans e1) e4, fun h => absurd rfl h⟩
theorem law_join {M : qM} {i : Int32} {uc us : Nat} (hI : qInv M) (hu : uc + 2 ≤ 600000 ∧ us + 402 ≤ 7302250) (hb1 : vp_in (i + Int32.ofInt 1) (M.2.1 0)) (hb2 : vp_in (i + Int32.ofInt 2) (M.2.1 0)) (hb3 : vp_in (i + Int32.ofInt 3) (M.2.1 0)) (hb4 : vp_in (i + Int32.ofInt 4) (M.2.1 0)) (hb5 : vp_in (i + Int32.ofInt 5) (M.2.1 0)) (hb6 : vp_in (i + Int32.ofInt 6) (M.2.1 0))
    (hn : ∀ M2, qInv M2 → M2.2.2.1 0 = M.2.2.1 0 → M2.2.1 0 = M.2.1 0 → qJ m_L_law (qWP 30) qQ1 1726 [(3, .int i), (2, .ref 65), (1, .ref 2), (0, .ref 0)] [] (uc + 0) (us + 0) M2) : qJ m_L_law (qWP 30) qQ1 903 [(3, .int i), (2, .ref 65), (1, .ref 2), (0, .ref 0)] [] uc us M := by
  have hst := hI.1
  have h2 : 2 < M.1 + 2 := Nat.lt_of_lt_of_le (by decide) hst.1
  refine qJ_run (qWP_mono _) [1726] 100 ?_
  refine ⟨hb1, ⟨hb2, ⟨h2, hst, ⟨by show uc + 0 ≤ 600000; omega, by show us + 0 ≤ 7302250; omega⟩, ?_⟩⟩⟩
  refine qWP_mono 30 _ _ _ _ _ (fun v M1 hv => ?_) (op_join hI _ _)
  obtain ⟨r, rfl, ⟨e1, e2, hst1⟩, hv⟩ := hv
  have h3 : 65 < M1.1 + 2 := Nat.lt_of_lt_of_le (by decide) hst1.1
  rw [← e1] at hv
  rw [← e2] at hb1
  rw [← e2] at hb2
  refine ⟨hb1, ⟨hb2, ⟨h3, hst1, ⟨by show uc + 0 + 0 ≤ 600000; omega, by show us + 0 + 0 ≤ 7302250; omega⟩, ?_⟩⟩⟩
  refine qWP_mono 30 _ _ _ _ _ (fun v2 M2 hv2 => ?_) hv
  obtain ⟨rfl, ⟨e3, e4⟩, hI2⟩ := hv2
  exact ⟨fun _ => hn M2 hI2 (e3.trans e1) e4, fun h => absurd rfl h⟩
theorem law_part {M : qM} {i : Int32} {uc us : Nat} (hI : qInv M) (hu : uc + 2 ≤ 600000 ∧ us + 402 ≤ 7302250) (hb1 : vp_in (i + Int32.ofInt 1) (M.2.1 0)) (hb2 : vp_in (i + Int32.ofInt 2) (M.2.1 0)) (hb3 : vp_in (i + Int32.ofInt 3) (M.2.1 0)) (hb4 : vp_in (i + Int32.ofInt 4) (M.2.1 0)) (hb5 : vp_in (i + Int32.ofInt 5) (M.2.1 0)) (hb6 : vp_in (i + Int32.ofInt 6) (M.2.1 0))
    (hn : ∀ M2, qInv M2 → M2.2.2.1 0 = M.2.2.1 0 → M2.2.1 0 = M.2.1 0 → qJ m_L_law (qWP 30) qQ1 1726 [(3, .int i), (2, .ref 65), (1, .ref 2), (0, .ref 0)] [] (uc + 0) (us + 0) M2) : qJ m_L_law (qWP 30) qQ1 936 [(3, .int i), (2, .ref 65), (1, .ref 2), (0, .ref 0)] [] uc us M := by
  have hst := hI.1
  have h2 : 2 < M.1 + 2 := Nat.lt_of_lt_of_le (by decide) hst.1
  refine qJ_run (qWP_mono _) [1726] 100 ?_
  refine ⟨hb1, ⟨h2, hst, ⟨by show uc + 0 ≤ 600000; omega, by show us + 0 ≤ 7302250; omega⟩, ?_⟩⟩
  refine qWP_mono 30 _ _ _ _ _ (fun v M1 hv => ?_) (op_part hI _)
  obtain ⟨r, rfl, ⟨e1, e2, hst1⟩, hv⟩ := hv
  have h3 : 65 < M1.1 + 2 := Nat.lt_of_lt_of_le (by decide) hst1.1
  rw [← e1] at hv
  rw [← e2] at hb1
  refine ⟨hb1, ⟨h3, hst1, ⟨by show uc + 0 + 0 ≤ 600000; omega, by show us + 0 + 0 ≤ 7302250; omega⟩, ?_⟩⟩
  refine qWP_mono 30 _ _ _ _ _ (fun v2 M2 hv2 => ?_) hv
  obtain ⟨rfl, ⟨e3, e4⟩, hI2⟩ := hv2
  exact ⟨fun _ => hn M2 hI2 (e3.trans e1) e4, fun h => absurd rfl h⟩
theorem law_joined {M : qM} {i : Int32} {uc us : Nat} (hI : qInv M) (hu : uc + 2 ≤ 600000 ∧ us + 402 ≤ 7302250) (hb1 : vp_in (i + Int32.ofInt 1) (M.2.1 0)) (hb2 : vp_in (i + Int32.ofInt 2) (M.2.1 0)) (hb3 : vp_in (i + Int32.ofInt 3) (M.2.1 0)) (hb4 : vp_in (i + Int32.ofInt 4) (M.2.1 0)) (hb5 : vp_in (i + Int32.ofInt 5) (M.2.1 0)) (hb6 : vp_in (i + Int32.ofInt 6) (M.2.1 0))
    (hn : ∀ M2, qInv M2 → M2.2.2.1 0 = M.2.2.1 0 → M2.2.1 0 = M.2.1 0 → qJ m_L_law (qWP 30) qQ1 1726 [(3, .int i), (2, .ref 65), (1, .ref 2), (0, .ref 0)] [] (uc + 0) (us + 0) M2) : qJ m_L_law (qWP 30) qQ1 959 [(3, .int i), (2, .ref 65), (1, .ref 2), (0, .ref 0)] [] uc us M := by
  have hst := hI.1
  have h2 : 2 < M.1 + 2 := Nat.lt_of_lt_of_le (by decide) hst.1
  refine qJ_run (qWP_mono _) [1726] 100 ?_
  refine ⟨hb1, ⟨hb2, ⟨h2, hst, ⟨by show uc + 0 ≤ 600000; omega, by show us + 0 ≤ 7302250; omega⟩, ?_⟩⟩⟩
  refine qWP_mono 30 _ _ _ _ _ (fun v M1 hv => ?_) (op_joined hI _ _)
  obtain ⟨r, rfl, ⟨e1, e2, hst1⟩, hv⟩ := hv
  have h3 : 65 < M1.1 + 2 := Nat.lt_of_lt_of_le (by decide) hst1.1
  rw [← e1] at hv
  rw [← e2] at hb1
  rw [← e2] at hb2
  refine ⟨hb1, ⟨hb2, ⟨h3, hst1, ⟨by show uc + 0 + 0 ≤ 600000; omega, by show us + 0 + 0 ≤ 7302250; omega⟩, ?_⟩⟩⟩
  refine qWP_mono 30 _ _ _ _ _ (fun v2 M2 hv2 => ?_) hv
  obtain ⟨rfl, ⟨e3, e4⟩, hI2⟩ := hv2
  exact ⟨fun _ => hn M2 hI2 (e3.trans e1) e4, fun h => absurd rfl h⟩
theorem law_whole {M : qM} {i : Int32} {uc us : Nat} (hI : qInv M) (hu : uc + 2 ≤ 600000 ∧ us + 402 ≤ 7302250) (hb1 : vp_in (i + Int32.ofInt 1) (M.2.1 0)) (hb2 : vp_in (i + Int32.ofInt 2) (M.2.1 0)) (hb3 : vp_in (i + Int32.ofInt 3) (M.2.1 0)) (hb4 : vp_in (i + Int32.ofInt 4) (M.2.1 0)) (hb5 : vp_in (i + Int32.ofInt 5) (M.2.1 0)) (hb6 : vp_in (i + Int32.ofInt 6) (M.2.1 0))
    (hn : ∀ M2, qInv M2 → M2.2.2.1 0 = M.2.2.1 0 → M2.2.1 0 = M.2.1 0 → qJ m_L_law (qWP 30) qQ1 1726 [(3, .int i), (2, .ref 65), (1, .ref 2), (0, .ref 0)] [] (uc + 0) (us + 0) M2) : qJ m_L_law (qWP 30) qQ1 992 [(3, .int i), (2, .ref 65), (1, .ref 2), (0, .ref 0)] [] uc us M := by
  have hst := hI.1
  have h2 : 2 < M.1 + 2 := Nat.lt_of_lt_of_le (by decide) hst.1
  refine qJ_run (qWP_mono _) [1726] 100 ?_
  refine ⟨hb1, ⟨hb2, ⟨hb3, ⟨h2, hst, ⟨by show uc + 0 ≤ 600000; omega, by show us + 0 ≤ 7302250; omega⟩, ?_⟩⟩⟩⟩
  refine qWP_mono 30 _ _ _ _ _ (fun v M1 hv => ?_) (op_whole hI _ _ _)
  obtain ⟨r, rfl, ⟨e1, e2, hst1⟩, hv⟩ := hv
  have h3 : 65 < M1.1 + 2 := Nat.lt_of_lt_of_le (by decide) hst1.1
  rw [← e1] at hv
  rw [← e2] at hb1
  rw [← e2] at hb2
  rw [← e2] at hb3
  refine ⟨hb1, ⟨hb2, ⟨hb3, ⟨h3, hst1, ⟨by show uc + 0 + 0 ≤ 600000; omega, by show us + 0 + 0 ≤ 7302250; omega⟩, ?_⟩⟩⟩⟩
  refine qWP_mono 30 _ _ _ _ _ (fun v2 M2 hv2 => ?_) hv
  obtain ⟨rfl, ⟨e3, e4⟩, hI2⟩ := hv2
  exact ⟨fun _ => hn M2 hI2 (e3.trans e1) e4, fun h => absurd rfl h⟩
theorem law_years {M : qM} {i : Int32} {uc us : Nat} (hI : qInv M) (hu : uc + 2 ≤ 600000 ∧ us + 402 ≤ 7302250) (hb1 : vp_in (i + Int32.ofInt 1) (M.2.1 0)) (hb2 : vp_in (i + Int32.ofInt 2) (M.2.1 0)) (hb3 : vp_in (i + Int32.ofInt 3) (M.2.1 0)) (hb4 : vp_in (i + Int32.ofInt 4) (M.2.1 0)) (hb5 : vp_in (i + Int32.ofInt 5) (M.2.1 0)) (hb6 : vp_in (i + Int32.ofInt 6) (M.2.1 0))
    (hn : ∀ M2, qInv M2 → M2.2.2.1 0 = M.2.2.1 0 → M2.2.1 0 = M.2.1 0 → qJ m_L_law (qWP 30) qQ1 1726 [(3, .int i), (2, .ref 65), (1, .ref 2), (0, .ref 0)] [] (uc + 0) (us + 0) M2) : qJ m_L_law (qWP 30) qQ1 1035 [(3, .int i), (2, .ref 65), (1, .ref 2), (0, .ref 0)] [] uc us M := by
  have hst := hI.1
  have h2 : 2 < M.1 + 2 := Nat.lt_of_lt_of_le (by decide) hst.1
  refine qJ_run (qWP_mono _) [1726] 100 ?_
  refine ⟨hb1, ⟨hb2, ⟨hb3, ⟨h2, hst, ⟨by show uc + 0 ≤ 600000; omega, by show us + 0 ≤ 7302250; omega⟩, ?_⟩⟩⟩⟩
  refine qWP_mono 30 _ _ _ _ _ (fun v M1 hv => ?_) (op_years hI _ _ _)
  obtain ⟨r, rfl, ⟨e1, e2, hst1⟩, hv⟩ := hv
  have h3 : 65 < M1.1 + 2 := Nat.lt_of_lt_of_le (by decide) hst1.1
  rw [← e1] at hv
  rw [← e2] at hb1
  rw [← e2] at hb2
  rw [← e2] at hb3
  refine ⟨hb1, ⟨hb2, ⟨hb3, ⟨h3, hst1, ⟨by show uc + 0 + 0 ≤ 600000; omega, by show us + 0 + 0 ≤ 7302250; omega⟩, ?_⟩⟩⟩⟩
  refine qWP_mono 30 _ _ _ _ _ (fun v2 M2 hv2 => ?_) hv
  obtain ⟨rfl, ⟨e3, e4⟩, hI2⟩ := hv2
  exact ⟨fun _ => hn M2 hI2 (e3.trans e1) e4, fun h => absurd rfl h⟩
theorem law_bound {M : qM} {i : Int32} {uc us : Nat} (hI : qInv M) (hu : uc + 2 ≤ 600000 ∧ us + 402 ≤ 7302250) (hb1 : vp_in (i + Int32.ofInt 1) (M.2.1 0)) (hb2 : vp_in (i + Int32.ofInt 2) (M.2.1 0)) (hb3 : vp_in (i + Int32.ofInt 3) (M.2.1 0)) (hb4 : vp_in (i + Int32.ofInt 4) (M.2.1 0)) (hb5 : vp_in (i + Int32.ofInt 5) (M.2.1 0)) (hb6 : vp_in (i + Int32.ofInt 6) (M.2.1 0))
    (hn : ∀ M2, qInv M2 → M2.2.2.1 0 = M.2.2.1 0 → M2.2.1 0 = M.2.1 0 → qJ m_L_law (qWP 30) qQ1 1726 [(3, .int i), (2, .ref 65), (1, .ref 2), (0, .ref 0)] [] (uc + 0) (us + 0) M2) : qJ m_L_law (qWP 30) qQ1 1078 [(3, .int i), (2, .ref 65), (1, .ref 2), (0, .ref 0)] [] uc us M := by
  have hst := hI.1
  have h2 : 2 < M.1 + 2 := Nat.lt_of_lt_of_le (by decide) hst.1
  refine qJ_run (qWP_mono _) [1726] 100 ?_
  refine ⟨hb1, ⟨hb2, ⟨hb3, ⟨h2, hst, ⟨by show uc + 0 ≤ 600000; omega, by show us + 0 ≤ 7302250; omega⟩, ?_⟩⟩⟩⟩
  refine qWP_mono 30 _ _ _ _ _ (fun v M1 hv => ?_) (op_bound hI _ _ _)
  obtain ⟨r, rfl, ⟨e1, e2, hst1⟩, hv⟩ := hv
  have h3 : 65 < M1.1 + 2 := Nat.lt_of_lt_of_le (by decide) hst1.1
  rw [← e1] at hv
  rw [← e2] at hb1
  rw [← e2] at hb2
  rw [← e2] at hb3
  refine ⟨hb1, ⟨hb2, ⟨hb3, ⟨h3, hst1, ⟨by show uc + 0 + 0 ≤ 600000; omega, by show us + 0 + 0 ≤ 7302250; omega⟩, ?_⟩⟩⟩⟩
  refine qWP_mono 30 _ _ _ _ _ (fun v2 M2 hv2 => ?_) hv
  obtain ⟨rfl, ⟨e3, e4⟩, hI2⟩ := hv2
  exact ⟨fun _ => hn M2 hI2 (e3.trans e1) e4, fun h => absurd rfl h⟩
theorem law_loose {M : qM} {i : Int32} {uc us : Nat} (hI : qInv M) (hu : uc + 2 ≤ 600000 ∧ us + 402 ≤ 7302250) (hb1 : vp_in (i + Int32.ofInt 1) (M.2.1 0)) (hb2 : vp_in (i + Int32.ofInt 2) (M.2.1 0)) (hb3 : vp_in (i + Int32.ofInt 3) (M.2.1 0)) (hb4 : vp_in (i + Int32.ofInt 4) (M.2.1 0)) (hb5 : vp_in (i + Int32.ofInt 5) (M.2.1 0)) (hb6 : vp_in (i + Int32.ofInt 6) (M.2.1 0))
    (hn : ∀ M2, qInv M2 → M2.2.2.1 0 = M.2.2.1 0 → M2.2.1 0 = M.2.1 0 → qJ m_L_law (qWP 30) qQ1 1726 [(3, .int i), (2, .ref 65), (1, .ref 2), (0, .ref 0)] [] (uc + 0) (us + 0) M2) : qJ m_L_law (qWP 30) qQ1 1121 [(3, .int i), (2, .ref 65), (1, .ref 2), (0, .ref 0)] [] uc us M := by
  have hst := hI.1
  have h2 : 2 < M.1 + 2 := Nat.lt_of_lt_of_le (by decide) hst.1
  refine qJ_run (qWP_mono _) [1726] 100 ?_
  refine ⟨h2, hst, ⟨by show uc + 0 ≤ 600000; omega, by show us + 0 ≤ 7302250; omega⟩, ?_⟩
  refine qWP_mono 30 _ _ _ _ _ (fun v M1 hv => ?_) (op_loose hI )
  obtain ⟨r, rfl, ⟨e1, e2, hst1⟩, hv⟩ := hv
  have h3 : 65 < M1.1 + 2 := Nat.lt_of_lt_of_le (by decide) hst1.1
  refine ⟨h3, hst1, ⟨by show uc + 0 + 0 ≤ 600000; omega, by show us + 0 + 0 ≤ 7302250; omega⟩, ?_⟩
  refine qWP_mono 30 _ _ _ _ _ (fun v2 M2 hv2 => ?_) hv
  obtain ⟨rfl, ⟨e3, e4⟩, hI2⟩ := hv2
  exact ⟨fun _ => hn M2 hI2 e3 e4, fun h => absurd rfl h⟩
theorem law_span {M : qM} {i : Int32} {uc us : Nat} (hI : qInv M) (hu : uc + 2 ≤ 600000 ∧ us + 402 ≤ 7302250) (hb1 : vp_in (i + Int32.ofInt 1) (M.2.1 0)) (hb2 : vp_in (i + Int32.ofInt 2) (M.2.1 0)) (hb3 : vp_in (i + Int32.ofInt 3) (M.2.1 0)) (hb4 : vp_in (i + Int32.ofInt 4) (M.2.1 0)) (hb5 : vp_in (i + Int32.ofInt 5) (M.2.1 0)) (hb6 : vp_in (i + Int32.ofInt 6) (M.2.1 0))
    (hn : ∀ M2, qInv M2 → M2.2.2.1 0 = M.2.2.1 0 → M2.2.1 0 = M.2.1 0 → qJ m_L_law (qWP 30) qQ1 1726 [(3, .int i), (2, .ref 65), (1, .ref 2), (0, .ref 0)] [] (uc + 0) (us + 0) M2) : qJ m_L_law (qWP 30) qQ1 1134 [(3, .int i), (2, .ref 65), (1, .ref 2), (0, .ref 0)] [] uc us M := by
  have hst := hI.1
  have h2 : 2 < M.1 + 2 := Nat.lt_of_lt_of_le (by decide) hst.1
  refine qJ_run (qWP_mono _) [1726] 100 ?_
  refine ⟨hb1, ⟨hb2, ⟨h2, hst, ⟨by show uc + 0 ≤ 600000; omega, by show us + 0 ≤ 7302250; omega⟩, ?_⟩⟩⟩
  refine qWP_mono 30 _ _ _ _ _ (fun v M1 hv => ?_) (op_span hI _ _)
  obtain ⟨r, rfl, ⟨e1, e2, hst1⟩, hv⟩ := hv
  have h3 : 65 < M1.1 + 2 := Nat.lt_of_lt_of_le (by decide) hst1.1
  rw [← e1] at hv
  rw [← e2] at hb1
  rw [← e2] at hb2
  refine ⟨hb1, ⟨hb2, ⟨h3, hst1, ⟨by show uc + 0 + 0 ≤ 600000; omega, by show us + 0 + 0 ≤ 7302250; omega⟩, ?_⟩⟩⟩
  refine qWP_mono 30 _ _ _ _ _ (fun v2 M2 hv2 => ?_) hv
  obtain ⟨rfl, ⟨e3, e4⟩, hI2⟩ := hv2
  exact ⟨fun _ => hn M2 hI2 (e3.trans e1) e4, fun h => absurd rfl h⟩
theorem law_clash {M : qM} {i : Int32} {uc us : Nat} (hI : qInv M) (hu : uc + 2 ≤ 600000 ∧ us + 402 ≤ 7302250) (hb1 : vp_in (i + Int32.ofInt 1) (M.2.1 0)) (hb2 : vp_in (i + Int32.ofInt 2) (M.2.1 0)) (hb3 : vp_in (i + Int32.ofInt 3) (M.2.1 0)) (hb4 : vp_in (i + Int32.ofInt 4) (M.2.1 0)) (hb5 : vp_in (i + Int32.ofInt 5) (M.2.1 0)) (hb6 : vp_in (i + Int32.ofInt 6) (M.2.1 0))
    (hn : ∀ M2, qInv M2 → M2.2.2.1 0 = M.2.2.1 0 → M2.2.1 0 = M.2.1 0 → qJ m_L_law (qWP 30) qQ1 1726 [(3, .int i), (2, .ref 65), (1, .ref 2), (0, .ref 0)] [] (uc + 0) (us + 0) M2) : qJ m_L_law (qWP 30) qQ1 1167 [(3, .int i), (2, .ref 65), (1, .ref 2), (0, .ref 0)] [] uc us M := by
  have hst := hI.1
  have h2 : 2 < M.1 + 2 := Nat.lt_of_lt_of_le (by decide) hst.1
  refine qJ_run (qWP_mono _) [1726] 100 ?_
  refine ⟨h2, hst, ⟨by show uc + 0 ≤ 600000; omega, by show us + 0 ≤ 7302250; omega⟩, ?_⟩
  refine qWP_mono 30 _ _ _ _ _ (fun v M1 hv => ?_) (op_clash hI )
  obtain ⟨r, rfl, ⟨e1, e2, hst1⟩, hv⟩ := hv
  have h3 : 65 < M1.1 + 2 := Nat.lt_of_lt_of_le (by decide) hst1.1
  refine ⟨h3, hst1, ⟨by show uc + 0 + 0 ≤ 600000; omega, by show us + 0 + 0 ≤ 7302250; omega⟩, ?_⟩
  refine qWP_mono 30 _ _ _ _ _ (fun v2 M2 hv2 => ?_) hv
  obtain ⟨rfl, ⟨e3, e4⟩, hI2⟩ := hv2
  exact ⟨fun _ => hn M2 hI2 e3 e4, fun h => absurd rfl h⟩
theorem law_person {M : qM} {i : Int32} {uc us : Nat} (hI : qInv M) (hu : uc + 2 ≤ 600000 ∧ us + 402 ≤ 7302250) (hb1 : vp_in (i + Int32.ofInt 1) (M.2.1 0)) (hb2 : vp_in (i + Int32.ofInt 2) (M.2.1 0)) (hb3 : vp_in (i + Int32.ofInt 3) (M.2.1 0)) (hb4 : vp_in (i + Int32.ofInt 4) (M.2.1 0)) (hb5 : vp_in (i + Int32.ofInt 5) (M.2.1 0)) (hb6 : vp_in (i + Int32.ofInt 6) (M.2.1 0))
    (hn : ∀ M2, qInv M2 → M2.2.2.1 0 = M.2.2.1 0 → M2.2.1 0 = M.2.1 0 → qJ m_L_law (qWP 30) qQ1 1726 [(3, .int i), (2, .ref 65), (1, .ref 2), (0, .ref 0)] [] (uc + 0) (us + 0) M2) : qJ m_L_law (qWP 30) qQ1 1180 [(3, .int i), (2, .ref 65), (1, .ref 2), (0, .ref 0)] [] uc us M := by
  have hst := hI.1
  have h2 : 2 < M.1 + 2 := Nat.lt_of_lt_of_le (by decide) hst.1
  refine qJ_run (qWP_mono _) [1726] 100 ?_
  refine ⟨hb1, ⟨hb2, ⟨hb3, ⟨hb4, ⟨hb5, ⟨h2, hst, ⟨by show uc + 0 ≤ 600000; omega, by show us + 0 ≤ 7302250; omega⟩, ?_⟩⟩⟩⟩⟩⟩
  refine qWP_mono 30 _ _ _ _ _ (fun v M1 hv => ?_) (op_person hI _ _ _)
  obtain ⟨r, rfl, ⟨e1, e2, hst1⟩, hv⟩ := hv
  have h3 : 65 < M1.1 + 2 := Nat.lt_of_lt_of_le (by decide) hst1.1
  rw [← e1] at hv
  rw [← e2] at hb1
  rw [← e2] at hb2
  rw [← e2] at hb3
  rw [← e2] at hb4
  rw [← e2] at hb5
  refine ⟨hb1, ⟨hb2, ⟨hb3, ⟨hb4, ⟨hb5, ⟨h3, hst1, ⟨by show uc + 0 + 0 ≤ 600000; omega, by show us + 0 + 0 ≤ 7302250; omega⟩, ?_⟩⟩⟩⟩⟩⟩
  refine qWP_mono 30 _ _ _ _ _ (fun v2 M2 hv2 => ?_) hv
  obtain ⟨rfl, ⟨e3, e4⟩, hI2⟩ := hv2
  exact ⟨fun _ => hn M2 hI2 (e3.trans e1) e4, fun h => absurd rfl h⟩
theorem law_one {M : qM} {i : Int32} {uc us : Nat} (hI : qInv M) (hu : uc + 2 ≤ 600000 ∧ us + 402 ≤ 7302250) (hb1 : vp_in (i + Int32.ofInt 1) (M.2.1 0)) (hb2 : vp_in (i + Int32.ofInt 2) (M.2.1 0)) (hb3 : vp_in (i + Int32.ofInt 3) (M.2.1 0)) (hb4 : vp_in (i + Int32.ofInt 4) (M.2.1 0)) (hb5 : vp_in (i + Int32.ofInt 5) (M.2.1 0)) (hb6 : vp_in (i + Int32.ofInt 6) (M.2.1 0))
    (hn : ∀ M2, qInv M2 → M2.2.2.1 0 = M.2.2.1 0 → M2.2.1 0 = M.2.1 0 → qJ m_L_law (qWP 30) qQ1 1726 [(3, .int i), (2, .ref 65), (1, .ref 2), (0, .ref 0)] [] (uc + 0) (us + 0) M2) : qJ m_L_law (qWP 30) qQ1 1283 [(3, .int i), (2, .ref 65), (1, .ref 2), (0, .ref 0)] [] uc us M := by
  have hst := hI.1
  have h2 : 2 < M.1 + 2 := Nat.lt_of_lt_of_le (by decide) hst.1
  refine qJ_run (qWP_mono _) [1726] 100 ?_
  refine ⟨hb1, ⟨hb2, ⟨h2, hst, ⟨by show uc + 0 ≤ 600000; omega, by show us + 0 ≤ 7302250; omega⟩, ?_⟩⟩⟩
  refine qWP_mono 30 _ _ _ _ _ (fun v M1 hv => ?_) (op_one hI _ _)
  obtain ⟨r, rfl, ⟨e1, e2, hst1⟩, hv⟩ := hv
  have h3 : 65 < M1.1 + 2 := Nat.lt_of_lt_of_le (by decide) hst1.1
  rw [← e1] at hv
  rw [← e2] at hb1
  rw [← e2] at hb2
  refine ⟨hb1, ⟨hb2, ⟨h3, hst1, ⟨by show uc + 0 + 0 ≤ 600000; omega, by show us + 0 + 0 ≤ 7302250; omega⟩, ?_⟩⟩⟩
  refine qWP_mono 30 _ _ _ _ _ (fun v2 M2 hv2 => ?_) hv
  obtain ⟨rfl, ⟨e3, e4⟩, hI2⟩ := hv2
  exact ⟨fun _ => hn M2 hI2 (e3.trans e1) e4, fun h => absurd rfl h⟩
theorem law_group {M : qM} {i : Int32} {uc us : Nat} (hI : qInv M) (hu : uc + 2 ≤ 600000 ∧ us + 402 ≤ 7302250) (hb1 : vp_in (i + Int32.ofInt 1) (M.2.1 0)) (hb2 : vp_in (i + Int32.ofInt 2) (M.2.1 0)) (hb3 : vp_in (i + Int32.ofInt 3) (M.2.1 0)) (hb4 : vp_in (i + Int32.ofInt 4) (M.2.1 0)) (hb5 : vp_in (i + Int32.ofInt 5) (M.2.1 0)) (hb6 : vp_in (i + Int32.ofInt 6) (M.2.1 0))
    (hn : ∀ M2, qInv M2 → M2.2.2.1 0 = M.2.2.1 0 → M2.2.1 0 = M.2.1 0 → qJ m_L_law (qWP 30) qQ1 1726 [(3, .int i), (2, .ref 65), (1, .ref 2), (0, .ref 0)] [] (uc + 0) (us + 0) M2) : qJ m_L_law (qWP 30) qQ1 1316 [(3, .int i), (2, .ref 65), (1, .ref 2), (0, .ref 0)] [] uc us M := by
  have hst := hI.1
  have h2 : 2 < M.1 + 2 := Nat.lt_of_lt_of_le (by decide) hst.1
  refine qJ_run (qWP_mono _) [1726] 100 ?_
  refine ⟨hb1, ⟨h2, hst, ⟨by show uc + 0 ≤ 600000; omega, by show us + 0 ≤ 7302250; omega⟩, ?_⟩⟩
  refine qWP_mono 30 _ _ _ _ _ (fun v M1 hv => ?_) (op_group hI _)
  obtain ⟨r, rfl, ⟨e1, e2, hst1⟩, hv⟩ := hv
  have h3 : 65 < M1.1 + 2 := Nat.lt_of_lt_of_le (by decide) hst1.1
  rw [← e1] at hv
  rw [← e2] at hb1
  refine ⟨hb1, ⟨h3, hst1, ⟨by show uc + 0 + 0 ≤ 600000; omega, by show us + 0 + 0 ≤ 7302250; omega⟩, ?_⟩⟩
  refine qWP_mono 30 _ _ _ _ _ (fun v2 M2 hv2 => ?_) hv
  obtain ⟨rfl, ⟨e3, e4⟩, hI2⟩ := hv2
  exact ⟨fun _ => hn M2 hI2 (e3.trans e1) e4, fun h => absurd rfl h⟩
theorem law_father {M : qM} {i : Int32} {uc us : Nat} (hI : qInv M) (hu : uc + 2 ≤ 600000 ∧ us + 402 ≤ 7302250) (hb1 : vp_in (i + Int32.ofInt 1) (M.2.1 0)) (hb2 : vp_in (i + Int32.ofInt 2) (M.2.1 0)) (hb3 : vp_in (i + Int32.ofInt 3) (M.2.1 0)) (hb4 : vp_in (i + Int32.ofInt 4) (M.2.1 0)) (hb5 : vp_in (i + Int32.ofInt 5) (M.2.1 0)) (hb6 : vp_in (i + Int32.ofInt 6) (M.2.1 0))
    (hn : ∀ M2, qInv M2 → M2.2.2.1 0 = M.2.2.1 0 → M2.2.1 0 = M.2.1 0 → qJ m_L_law (qWP 30) qQ1 1726 [(3, .int i), (2, .ref 65), (1, .ref 2), (0, .ref 0)] [] (uc + 0) (us + 0) M2) : qJ m_L_law (qWP 30) qQ1 1339 [(3, .int i), (2, .ref 65), (1, .ref 2), (0, .ref 0)] [] uc us M := by
  have hst := hI.1
  have h2 : 2 < M.1 + 2 := Nat.lt_of_lt_of_le (by decide) hst.1
  refine qJ_run (qWP_mono _) [1726] 100 ?_
  refine ⟨hb1, ⟨h2, hst, ⟨by show uc + 0 ≤ 600000; omega, by show us + 0 ≤ 7302250; omega⟩, ?_⟩⟩
  refine qWP_mono 30 _ _ _ _ _ (fun v M1 hv => ?_) (op_father hI _)
  obtain ⟨r, rfl, ⟨e1, e2, hst1⟩, hv⟩ := hv
  have h3 : 65 < M1.1 + 2 := Nat.lt_of_lt_of_le (by decide) hst1.1
  rw [← e1] at hv
  rw [← e2] at hb1
  refine ⟨hb1, ⟨h3, hst1, ⟨by show uc + 0 + 0 ≤ 600000; omega, by show us + 0 + 0 ≤ 7302250; omega⟩, ?_⟩⟩
  refine qWP_mono 30 _ _ _ _ _ (fun v2 M2 hv2 => ?_) hv
  obtain ⟨rfl, ⟨e3, e4⟩, hI2⟩ := hv2
  exact ⟨fun _ => hn M2 hI2 (e3.trans e1) e4, fun h => absurd rfl h⟩
theorem law_print {M : qM} {i : Int32} {uc us : Nat} (hI : qInv M) (hu : uc + 2 ≤ 600000 ∧ us + 402 ≤ 7302250) (hb1 : vp_in (i + Int32.ofInt 1) (M.2.1 0)) (hb2 : vp_in (i + Int32.ofInt 2) (M.2.1 0)) (hb3 : vp_in (i + Int32.ofInt 3) (M.2.1 0)) (hb4 : vp_in (i + Int32.ofInt 4) (M.2.1 0)) (hb5 : vp_in (i + Int32.ofInt 5) (M.2.1 0)) (hb6 : vp_in (i + Int32.ofInt 6) (M.2.1 0))
    (hn : ∀ M2, qInv M2 → M2.2.2.1 0 = M.2.2.1 0 → M2.2.1 0 = M.2.1 0 → qJ m_L_law (qWP 30) qQ1 1726 [(3, .int i), (2, .ref 65), (1, .ref 2), (0, .ref 0)] [] (uc + 0) (us + 0) M2) : qJ m_L_law (qWP 30) qQ1 1362 [(3, .int i), (2, .ref 65), (1, .ref 2), (0, .ref 0)] [] uc us M := by
  have hst := hI.1
  have h2 : 2 < M.1 + 2 := Nat.lt_of_lt_of_le (by decide) hst.1
  refine qJ_run (qWP_mono _) [1726] 100 ?_
  refine ⟨hb1, ⟨hb2, ⟨hb3, ⟨h2, hst, ⟨by show uc + 0 ≤ 600000; omega, by show us + 0 ≤ 7302250; omega⟩, ?_⟩⟩⟩⟩
  refine qWP_mono 30 _ _ _ _ _ (fun v M1 hv => ?_) (op_print hI _ _ _)
  obtain ⟨r, rfl, ⟨e1, e2, hst1⟩, hv⟩ := hv
  have h3 : 65 < M1.1 + 2 := Nat.lt_of_lt_of_le (by decide) hst1.1
  rw [← e1] at hv
  rw [← e2] at hb1
  rw [← e2] at hb2
  rw [← e2] at hb3
  refine ⟨hb1, ⟨hb2, ⟨hb3, ⟨h3, hst1, ⟨by show uc + 0 + 0 ≤ 600000; omega, by show us + 0 + 0 ≤ 7302250; omega⟩, ?_⟩⟩⟩⟩
  refine qWP_mono 30 _ _ _ _ _ (fun v2 M2 hv2 => ?_) hv
  obtain ⟨rfl, ⟨e3, e4⟩, hI2⟩ := hv2
  exact ⟨fun _ => hn M2 hI2 (e3.trans e1) e4, fun h => absurd rfl h⟩
theorem law_printed {M : qM} {i : Int32} {uc us : Nat} (hI : qInv M) (hu : uc + 2 ≤ 600000 ∧ us + 402 ≤ 7302250) (hb1 : vp_in (i + Int32.ofInt 1) (M.2.1 0)) (hb2 : vp_in (i + Int32.ofInt 2) (M.2.1 0)) (hb3 : vp_in (i + Int32.ofInt 3) (M.2.1 0)) (hb4 : vp_in (i + Int32.ofInt 4) (M.2.1 0)) (hb5 : vp_in (i + Int32.ofInt 5) (M.2.1 0)) (hb6 : vp_in (i + Int32.ofInt 6) (M.2.1 0))
    (hn : ∀ M2, qInv M2 → M2.2.2.1 0 = M.2.2.1 0 → M2.2.1 0 = M.2.1 0 → qJ m_L_law (qWP 30) qQ1 1726 [(3, .int i), (2, .ref 65), (1, .ref 2), (0, .ref 0)] [] (uc + 0) (us + 0) M2) : qJ m_L_law (qWP 30) qQ1 1405 [(3, .int i), (2, .ref 65), (1, .ref 2), (0, .ref 0)] [] uc us M := by
  have hst := hI.1
  have h2 : 2 < M.1 + 2 := Nat.lt_of_lt_of_le (by decide) hst.1
  refine qJ_run (qWP_mono _) [1726] 100 ?_
  refine ⟨hb1, ⟨hb2, ⟨hb3, ⟨hb4, ⟨h2, hst, ⟨by show uc + 0 ≤ 600000; omega, by show us + 0 ≤ 7302250; omega⟩, ?_⟩⟩⟩⟩⟩
  refine qWP_mono 30 _ _ _ _ _ (fun v M1 hv => ?_) (op_printed hI _ _ _ _)
  obtain ⟨r, rfl, ⟨e1, e2, hst1⟩, hv⟩ := hv
  have h3 : 65 < M1.1 + 2 := Nat.lt_of_lt_of_le (by decide) hst1.1
  rw [← e1] at hv
  rw [← e2] at hb1
  rw [← e2] at hb2
  rw [← e2] at hb3
  rw [← e2] at hb4
  refine ⟨hb1, ⟨hb2, ⟨hb3, ⟨hb4, ⟨h3, hst1, ⟨by show uc + 0 + 0 ≤ 600000; omega, by show us + 0 + 0 ≤ 7302250; omega⟩, ?_⟩⟩⟩⟩⟩
  refine qWP_mono 30 _ _ _ _ _ (fun v2 M2 hv2 => ?_) hv
  obtain ⟨rfl, ⟨e3, e4⟩, hI2⟩ := hv2
  exact ⟨fun _ => hn M2 hI2 (e3.trans e1) e4, fun h => absurd rfl h⟩
theorem law_back {M : qM} {i : Int32} {uc us : Nat} (hI : qInv M) (hu : uc + 2 ≤ 600000 ∧ us + 402 ≤ 7302250) (hb1 : vp_in (i + Int32.ofInt 1) (M.2.1 0)) (hb2 : vp_in (i + Int32.ofInt 2) (M.2.1 0)) (hb3 : vp_in (i + Int32.ofInt 3) (M.2.1 0)) (hb4 : vp_in (i + Int32.ofInt 4) (M.2.1 0)) (hb5 : vp_in (i + Int32.ofInt 5) (M.2.1 0)) (hb6 : vp_in (i + Int32.ofInt 6) (M.2.1 0))
    (hn : ∀ M2, qInv M2 → M2.2.2.1 0 = M.2.2.1 0 → M2.2.1 0 = M.2.1 0 → qJ m_L_law (qWP 30) qQ1 1726 [(3, .int i), (2, .ref 65), (1, .ref 2), (0, .ref 0)] [] (uc + 0) (us + 0) M2) : qJ m_L_law (qWP 30) qQ1 1458 [(3, .int i), (2, .ref 65), (1, .ref 2), (0, .ref 0)] [] uc us M := by
  have hst := hI.1
  have h2 : 2 < M.1 + 2 := Nat.lt_of_lt_of_le (by decide) hst.1
  refine qJ_run (qWP_mono _) [1726] 100 ?_
  refine ⟨hb1, ⟨hb2, ⟨hb3, ⟨h2, hst, ⟨by show uc + 0 ≤ 600000; omega, by show us + 0 ≤ 7302250; omega⟩, ?_⟩⟩⟩⟩
  refine qWP_mono 30 _ _ _ _ _ (fun v M1 hv => ?_) (op_back hI _ _ _)
  obtain ⟨r, rfl, ⟨e1, e2, hst1⟩, hv⟩ := hv
  have h3 : 65 < M1.1 + 2 := Nat.lt_of_lt_of_le (by decide) hst1.1
  rw [← e1] at hv
  rw [← e2] at hb1
  rw [← e2] at hb2
  rw [← e2] at hb3
  refine ⟨hb1, ⟨hb2, ⟨hb3, ⟨h3, hst1, ⟨by show uc + 0 + 0 ≤ 600000; omega, by show us + 0 + 0 ≤ 7302250; omega⟩, ?_⟩⟩⟩⟩
  refine qWP_mono 30 _ _ _ _ _ (fun v2 M2 hv2 => ?_) hv
  obtain ⟨rfl, ⟨e3, e4⟩, hI2⟩ := hv2
  exact ⟨fun _ => hn M2 hI2 (e3.trans e1) e4, fun h => absurd rfl h⟩
theorem law_count {M : qM} {i : Int32} {uc us : Nat} (hI : qInv M) (hu : uc + 2 ≤ 600000 ∧ us + 402 ≤ 7302250) (hb1 : vp_in (i + Int32.ofInt 1) (M.2.1 0)) (hb2 : vp_in (i + Int32.ofInt 2) (M.2.1 0)) (hb3 : vp_in (i + Int32.ofInt 3) (M.2.1 0)) (hb4 : vp_in (i + Int32.ofInt 4) (M.2.1 0)) (hb5 : vp_in (i + Int32.ofInt 5) (M.2.1 0)) (hb6 : vp_in (i + Int32.ofInt 6) (M.2.1 0))
    (hn : ∀ M2, qInv M2 → M2.2.2.1 0 = M.2.2.1 0 → M2.2.1 0 = M.2.1 0 → qJ m_L_law (qWP 30) qQ1 1726 [(3, .int i), (2, .ref 65), (1, .ref 2), (0, .ref 0)] [] (uc + 0) (us + 0) M2) : qJ m_L_law (qWP 30) qQ1 1501 [(3, .int i), (2, .ref 65), (1, .ref 2), (0, .ref 0)] [] uc us M := by
  have hst := hI.1
  have h2 : 2 < M.1 + 2 := Nat.lt_of_lt_of_le (by decide) hst.1
  refine qJ_run (qWP_mono _) [1726] 100 ?_
  refine ⟨hb1, ⟨h2, hst, ⟨by show uc + 0 ≤ 600000; omega, by show us + 0 ≤ 7302250; omega⟩, ?_⟩⟩
  refine qWP_mono 30 _ _ _ _ _ (fun v M1 hv => ?_) (op_count hI _)
  obtain ⟨r, rfl, ⟨e1, e2, hst1⟩, hv⟩ := hv
  have h3 : 65 < M1.1 + 2 := Nat.lt_of_lt_of_le (by decide) hst1.1
  rw [← e1] at hv
  rw [← e2] at hb1
  refine ⟨hb1, ⟨h3, hst1, ⟨by show uc + 0 + 0 ≤ 600000; omega, by show us + 0 + 0 ≤ 7302250; omega⟩, ?_⟩⟩
  refine qWP_mono 30 _ _ _ _ _ (fun v2 M2 hv2 => ?_) hv
  obtain ⟨rfl, ⟨e3, e4⟩, hI2⟩ := hv2
  exact ⟨fun _ => hn M2 hI2 (e3.trans e1) e4, fun h => absurd rfl h⟩
theorem law_tray {M : qM} {i : Int32} {uc us : Nat} (hI : qInv M) (hu : uc + 2 ≤ 600000 ∧ us + 402 ≤ 7302250) (hb1 : vp_in (i + Int32.ofInt 1) (M.2.1 0)) (hb2 : vp_in (i + Int32.ofInt 2) (M.2.1 0)) (hb3 : vp_in (i + Int32.ofInt 3) (M.2.1 0)) (hb4 : vp_in (i + Int32.ofInt 4) (M.2.1 0)) (hb5 : vp_in (i + Int32.ofInt 5) (M.2.1 0)) (hb6 : vp_in (i + Int32.ofInt 6) (M.2.1 0))
    (hn : ∀ M2, qInv M2 → M2.2.2.1 0 = M.2.2.1 0 → M2.2.1 0 = M.2.1 0 → qJ m_L_law (qWP 30) qQ1 1726 [(3, .int i), (2, .ref 65), (1, .ref 2), (0, .ref 0)] [] (uc + 0) (us + 0) M2) : qJ m_L_law (qWP 30) qQ1 1524 [(3, .int i), (2, .ref 65), (1, .ref 2), (0, .ref 0)] [] uc us M := by
  have hst := hI.1
  have h2 : 2 < M.1 + 2 := Nat.lt_of_lt_of_le (by decide) hst.1
  refine qJ_run (qWP_mono _) [1726] 100 ?_
  refine ⟨hb1, ⟨hb2, ⟨h2, hst, ⟨by show uc + 0 ≤ 600000; omega, by show us + 0 ≤ 7302250; omega⟩, ?_⟩⟩⟩
  refine qWP_mono 30 _ _ _ _ _ (fun v M1 hv => ?_) (op_tray hI _ _)
  obtain ⟨r, rfl, ⟨e1, e2, hst1⟩, hv⟩ := hv
  have h3 : 65 < M1.1 + 2 := Nat.lt_of_lt_of_le (by decide) hst1.1
  rw [← e1] at hv
  rw [← e2] at hb1
  rw [← e2] at hb2
  refine ⟨hb1, ⟨hb2, ⟨h3, hst1, ⟨by show uc + 0 + 0 ≤ 600000; omega, by show us + 0 + 0 ≤ 7302250; omega⟩, ?_⟩⟩⟩
  refine qWP_mono 30 _ _ _ _ _ (fun v2 M2 hv2 => ?_) hv
  obtain ⟨rfl, ⟨e3, e4⟩, hI2⟩ := hv2
  exact ⟨fun _ => hn M2 hI2 (e3.trans e1) e4, fun h => absurd rfl h⟩
theorem law_cell {M : qM} {i : Int32} {uc us : Nat} (hI : qInv M) (hu : uc + 2 ≤ 600000 ∧ us + 402 ≤ 7302250) (hb1 : vp_in (i + Int32.ofInt 1) (M.2.1 0)) (hb2 : vp_in (i + Int32.ofInt 2) (M.2.1 0)) (hb3 : vp_in (i + Int32.ofInt 3) (M.2.1 0)) (hb4 : vp_in (i + Int32.ofInt 4) (M.2.1 0)) (hb5 : vp_in (i + Int32.ofInt 5) (M.2.1 0)) (hb6 : vp_in (i + Int32.ofInt 6) (M.2.1 0))
    (hn : ∀ M2, qInv M2 → M2.2.2.1 0 = M.2.2.1 0 → M2.2.1 0 = M.2.1 0 → qJ m_L_law (qWP 30) qQ1 1726 [(3, .int i), (2, .ref 65), (1, .ref 2), (0, .ref 0)] [] (uc + 0) (us + 0) M2) : qJ m_L_law (qWP 30) qQ1 1557 [(3, .int i), (2, .ref 65), (1, .ref 2), (0, .ref 0)] [] uc us M := by
  have hst := hI.1
  have h2 : 2 < M.1 + 2 := Nat.lt_of_lt_of_le (by decide) hst.1
  refine qJ_run (qWP_mono _) [1726] 100 ?_
  refine ⟨hb1, ⟨hb2, ⟨hb3, ⟨h2, hst, ⟨by show uc + 0 ≤ 600000; omega, by show us + 0 ≤ 7302250; omega⟩, ?_⟩⟩⟩⟩
  refine qWP_mono 30 _ _ _ _ _ (fun v M1 hv => ?_) (op_cell hI _ _ _)
  obtain ⟨r, rfl, ⟨e1, e2, hst1⟩, hv⟩ := hv
  have h3 : 65 < M1.1 + 2 := Nat.lt_of_lt_of_le (by decide) hst1.1
  rw [← e1] at hv
  rw [← e2] at hb1
  rw [← e2] at hb2
  rw [← e2] at hb3
  refine ⟨hb1, ⟨hb2, ⟨hb3, ⟨h3, hst1, ⟨by show uc + 0 + 0 ≤ 600000; omega, by show us + 0 + 0 ≤ 7302250; omega⟩, ?_⟩⟩⟩⟩
  refine qWP_mono 30 _ _ _ _ _ (fun v2 M2 hv2 => ?_) hv
  obtain ⟨rfl, ⟨e3, e4⟩, hI2⟩ := hv2
  exact ⟨fun _ => hn M2 hI2 (e3.trans e1) e4, fun h => absurd rfl h⟩
theorem law_lay {M : qM} {i : Int32} {uc us : Nat} (hI : qInv M) (hu : uc + 2 ≤ 600000 ∧ us + 402 ≤ 7302250) (hb1 : vp_in (i + Int32.ofInt 1) (M.2.1 0)) (hb2 : vp_in (i + Int32.ofInt 2) (M.2.1 0)) (hb3 : vp_in (i + Int32.ofInt 3) (M.2.1 0)) (hb4 : vp_in (i + Int32.ofInt 4) (M.2.1 0)) (hb5 : vp_in (i + Int32.ofInt 5) (M.2.1 0)) (hb6 : vp_in (i + Int32.ofInt 6) (M.2.1 0))
    (hn : ∀ M2, qInv M2 → M2.2.2.1 0 = M.2.2.1 0 → M2.2.1 0 = M.2.1 0 → qJ m_L_law (qWP 30) qQ1 1726 [(3, .int i), (2, .ref 65), (1, .ref 2), (0, .ref 0)] [] (uc + 0) (us + 0) M2) : qJ m_L_law (qWP 30) qQ1 1600 [(3, .int i), (2, .ref 65), (1, .ref 2), (0, .ref 0)] [] uc us M := by
  have hst := hI.1
  have h2 : 2 < M.1 + 2 := Nat.lt_of_lt_of_le (by decide) hst.1
  refine qJ_run (qWP_mono _) [1726] 100 ?_
  refine ⟨hb1, ⟨hb2, ⟨hb3, ⟨hb4, ⟨hb5, ⟨h2, hst, ⟨by show uc + 0 ≤ 600000; omega, by show us + 0 ≤ 7302250; omega⟩, ?_⟩⟩⟩⟩⟩⟩
  refine qWP_mono 30 _ _ _ _ _ (fun v M1 hv => ?_) (op_lay hI _ _ _ _ _)
  obtain ⟨r, rfl, ⟨e1, e2, hst1⟩, hv⟩ := hv
  have h3 : 65 < M1.1 + 2 := Nat.lt_of_lt_of_le (by decide) hst1.1
  rw [← e1] at hv
  rw [← e2] at hb1
  rw [← e2] at hb2
  rw [← e2] at hb3
  rw [← e2] at hb4
  rw [← e2] at hb5
  refine ⟨hb1, ⟨hb2, ⟨hb3, ⟨hb4, ⟨hb5, ⟨h3, hst1, ⟨by show uc + 0 + 0 ≤ 600000; omega, by show us + 0 + 0 ≤ 7302250; omega⟩, ?_⟩⟩⟩⟩⟩⟩
  refine qWP_mono 30 _ _ _ _ _ (fun v2 M2 hv2 => ?_) hv
  obtain ⟨rfl, ⟨e3, e4⟩, hI2⟩ := hv2
  exact ⟨fun _ => hn M2 hI2 (e3.trans e1) e4, fun h => absurd rfl h⟩
theorem law_taken {M : qM} {i : Int32} {uc us : Nat} (hI : qInv M) (hu : uc + 2 ≤ 600000 ∧ us + 402 ≤ 7302250) (hb1 : vp_in (i + Int32.ofInt 1) (M.2.1 0)) (hb2 : vp_in (i + Int32.ofInt 2) (M.2.1 0)) (hb3 : vp_in (i + Int32.ofInt 3) (M.2.1 0)) (hb4 : vp_in (i + Int32.ofInt 4) (M.2.1 0)) (hb5 : vp_in (i + Int32.ofInt 5) (M.2.1 0)) (hb6 : vp_in (i + Int32.ofInt 6) (M.2.1 0))
    (hn : ∀ M2, qInv M2 → M2.2.2.1 0 = M.2.2.1 0 → M2.2.1 0 = M.2.1 0 → qJ m_L_law (qWP 30) qQ1 1726 [(3, .int i), (2, .ref 65), (1, .ref 2), (0, .ref 0)] [] (uc + 0) (us + 0) M2) : qJ m_L_law (qWP 30) qQ1 1663 [(3, .int i), (2, .ref 65), (1, .ref 2), (0, .ref 0)] [] uc us M := by
  have hst := hI.1
  have h2 : 2 < M.1 + 2 := Nat.lt_of_lt_of_le (by decide) hst.1
  refine qJ_run (qWP_mono _) [1726] 100 ?_
  refine ⟨hb1, ⟨hb2, ⟨hb3, ⟨hb4, ⟨hb5, ⟨h2, hst, ⟨by show uc + 0 ≤ 600000; omega, by show us + 0 ≤ 7302250; omega⟩, ?_⟩⟩⟩⟩⟩⟩
  refine qWP_mono 30 _ _ _ _ _ (fun v M1 hv => ?_) (op_taken hI _ _ _ _ _)
  obtain ⟨r, rfl, ⟨e1, e2, hst1⟩, hv⟩ := hv
  have h3 : 65 < M1.1 + 2 := Nat.lt_of_lt_of_le (by decide) hst1.1
  rw [← e1] at hv
  rw [← e2] at hb1
  rw [← e2] at hb2
  rw [← e2] at hb3
  rw [← e2] at hb4
  rw [← e2] at hb5
  refine ⟨hb1, ⟨hb2, ⟨hb3, ⟨hb4, ⟨hb5, ⟨h3, hst1, ⟨by show uc + 0 + 0 ≤ 600000; omega, by show us + 0 + 0 ≤ 7302250; omega⟩, ?_⟩⟩⟩⟩⟩⟩
  refine qWP_mono 30 _ _ _ _ _ (fun v2 M2 hv2 => ?_) hv
  obtain ⟨rfl, ⟨e3, e4⟩, hI2⟩ := hv2
  exact ⟨fun _ => hn M2 hI2 (e3.trans e1) e4, fun h => absurd rfl h⟩
theorem law_next {M : qM} {k L : Nat} {uc us : Nat} (hn : qJ m_L_law (qWP 30) qQ1 18 [(3, .int (nI (7 * (k + 1)))), (2, .ref 65), (1, .ref 2), (0, .ref 0)] [] uc us M) : qJ m_L_law (qWP 30) qQ1 1726 [(3, .int (nI (7 * k))), (2, .ref 65), (1, .ref 2), (0, .ref 0)] [] uc us M := by
  refine qJ_run (qWP_mono _) [18] 10 ?_
  have e : nI (7 * k) + Int32.ofInt 7 = nI (7 * (k + 1)) := by
    rw [show Int32.ofInt 7 = nI 7 from rfl, nI_add]
    exact congrArg nI (by omega)
  rw [← e] at hn
  exact hn
theorem law_loop {L : Nat} {xs : Nat → Int32} (hL : L ≤ 3584) : ∀ (n k : Nat) (uc us : Nat) (M : qM), L + 7 ≤ 7 * k + 7 * n → 7 * k ≤ L → uc ≤ 94 + 2 * k → us ≤ 167295 + 402 * k → qInv M → M.2.2.1 0 = xs → M.2.1 0 = L → qJ m_L_law (qWP 30) qQ1 18 [(3, .int (nI (7 * k))), (2, .ref 65), (1, .ref 2), (0, .ref 0)] [] uc us M := by
  intro n
  induction n with
  | zero => intro k uc us M h1 h2; omega
  | succ n ih =>
    intro k uc us M h1 h2 h3 h4 hI hxs hN
    have hlen : Int32.ofNat (qLen M.2.1 0) - Int32.ofInt 7 = nI L - nI 7 := by
      show Int32.ofNat (M.2.1 0) - _ = _
      rw [hN]
      rfl
    refine qJ_run (qWP_mono _) [200, 233, 256, 331, 384, 437, 500, 513, 536, 579, 622, 675, 728, 761, 814, 837, 870, 903, 936, 959, 992, 1035, 1078, 1121, 1134, 1167, 1180, 1283, 1316, 1339, 1362, 1405, 1458, 1501, 1524, 1557, 1600, 1663, 1726] 60 ?_
    refine ⟨fun _ => ⟨Or.inr rfl, rfl⟩, fun hc => ?_⟩
    rw [hlen] at hc
    have hk : 7 * k + 7 ≤ L := by
      rcases Nat.lt_or_ge L (7 * k + 7) with h | h
      · refine absurd ?_ hc
        rw [fa_lt, nI_toInt (by omega), pk_sub_toInt (by omega) (by omega)]
        omega
      · exact h
    have hb : ∀ c : Nat, c < 7 → vp_in (nI (7 * k) + nI c) (M.2.1 0) := by
      intro c hc
      rw [nI_add, hN]
      exact vp_in_nI (by omega) (by omega)
    have hb0 : vp_in (nI (7 * k)) (M.2.1 0) := by
      rw [hN]
      exact vp_in_nI (by omega) (by omega)
    have hnx : ∀ (a b : Nat), a ≤ 2 → b ≤ 402 → ∀ M2, qInv M2 → M2.2.2.1 0 = M.2.2.1 0 → M2.2.1 0 = M.2.1 0 → qJ m_L_law (qWP 30) qQ1 1726 [(3, .int (nI (7 * k))), (2, .ref 65), (1, .ref 2), (0, .ref 0)] [] (uc + a) (us + b) M2 := by
      intro a b ha hb M2 hI2 e1 e2
      exact law_next (L := L) (ih (k + 1) _ _ M2 (by omega) (by omega) (by omega) (by omega) hI2 (e1.trans hxs) (e2.trans hN))
    have hu : uc + 2 ≤ 600000 ∧ us + 402 ≤ 7302250 := ⟨by omega, by omega⟩
    refine ⟨hb0, fun _ => hnx 0 0 (by omega) (by omega) M hI rfl rfl, fun _ => law_stone hI hu (hb 1 (by decide)) (hb 2 (by decide)) (hb 3 (by decide)) (hb 4 (by decide)) (hb 5 (by decide)) (hb 6 (by decide)) (hnx _ _ (by decide) (by decide)), fun _ => law_hand hI hu (hb 1 (by decide)) (hb 2 (by decide)) (hb 3 (by decide)) (hb 4 (by decide)) (hb 5 (by decide)) (hb 6 (by decide)) (hnx _ _ (by decide) (by decide)), fun _ => law_read hI hu (hb 1 (by decide)) (hb 2 (by decide)) (hb 3 (by decide)) (hb 4 (by decide)) (hb 5 (by decide)) (hb 6 (by decide)) (hnx _ _ (by decide) (by decide)), fun _ => law_forget hI hu (hb 1 (by decide)) (hb 2 (by decide)) (hb 3 (by decide)) (hb 4 (by decide)) (hb 5 (by decide)) (hb 6 (by decide)) (hnx _ _ (by decide) (by decide)), fun _ => law_sign hI hu (hb 1 (by decide)) (hb 2 (by decide)) (hb 3 (by decide)) (hb 4 (by decide)) (hb 5 (by decide)) (hb 6 (by decide)) (hnx _ _ (by decide) (by decide)), fun _ => law_feed hI hu (hb 1 (by decide)) (hb 2 (by decide)) (hb 3 (by decide)) (hb 4 (by decide)) (hb 5 (by decide)) (hb 6 (by decide)) (hnx _ _ (by decide) (by decide)), fun _ => law_formula hI hu (hb 1 (by decide)) (hb 2 (by decide)) (hb 3 (by decide)) (hb 4 (by decide)) (hb 5 (by decide)) (hb 6 (by decide)) (hnx _ _ (by decide) (by decide)), fun _ => law_texts hI hu (hb 1 (by decide)) (hb 2 (by decide)) (hb 3 (by decide)) (hb 4 (by decide)) (hb 5 (by decide)) (hb 6 (by decide)) (hnx _ _ (by decide) (by decide)), fun _ => law_text hI hu (hb 1 (by decide)) (hb 2 (by decide)) (hb 3 (by decide)) (hb 4 (by decide)) (hb 5 (by decide)) (hb 6 (by decide)) (hnx _ _ (by decide) (by decide)), fun _ => law_ways hI hu (hb 1 (by decide)) (hb 2 (by decide)) (hb 3 (by decide)) (hb 4 (by decide)) (hb 5 (by decide)) (hb 6 (by decide)) (hnx _ _ (by decide) (by decide)), fun _ => law_way hI hu (hb 1 (by decide)) (hb 2 (by decide)) (hb 3 (by decide)) (hb 4 (by decide)) (hb 5 (by decide)) (hb 6 (by decide)) (hnx _ _ (by decide) (by decide)), fun _ => law_carried hI hu (hb 1 (by decide)) (hb 2 (by decide)) (hb 3 (by decide)) (hb 4 (by decide)) (hb 5 (by decide)) (hb 6 (by decide)) (hnx _ _ (by decide) (by decide)), fun _ => law_fits hI hu (hb 1 (by decide)) (hb 2 (by decide)) (hb 3 (by decide)) (hb 4 (by decide)) (hb 5 (by decide)) (hb 6 (by decide)) (hnx _ _ (by decide) (by decide)), fun _ => law_edge hI hu (hb 1 (by decide)) (hb 2 (by decide)) (hb 3 (by decide)) (hb 4 (by decide)) (hb 5 (by decide)) (hb 6 (by decide)) (hnx _ _ (by decide) (by decide)), fun _ => law_tolerance hI hu (hb 1 (by decide)) (hb 2 (by decide)) (hb 3 (by decide)) (hb 4 (by decide)) (hb 5 (by decide)) (hb 6 (by decide)) (hnx _ _ (by decide) (by decide)), fun _ => law_room hI hu (hb 1 (by decide)) (hb 2 (by decide)) (hb 3 (by decide)) (hb 4 (by decide)) (hb 5 (by decide)) (hb 6 (by decide)) (hnx _ _ (by decide) (by decide)), fun _ => law_best hI hu (hb 1 (by decide)) (hb 2 (by decide)) (hb 3 (by decide)) (hb 4 (by decide)) (hb 5 (by decide)) (hb 6 (by decide)) (hnx _ _ (by decide) (by decide)), fun _ => law_join hI hu (hb 1 (by decide)) (hb 2 (by decide)) (hb 3 (by decide)) (hb 4 (by decide)) (hb 5 (by decide)) (hb 6 (by decide)) (hnx _ _ (by decide) (by decide)), fun _ => law_part hI hu (hb 1 (by decide)) (hb 2 (by decide)) (hb 3 (by decide)) (hb 4 (by decide)) (hb 5 (by decide)) (hb 6 (by decide)) (hnx _ _ (by decide) (by decide)), fun _ => law_joined hI hu (hb 1 (by decide)) (hb 2 (by decide)) (hb 3 (by decide)) (hb 4 (by decide)) (hb 5 (by decide)) (hb 6 (by decide)) (hnx _ _ (by decide) (by decide)), fun _ => law_whole hI hu (hb 1 (by decide)) (hb 2 (by decide)) (hb 3 (by decide)) (hb 4 (by decide)) (hb 5 (by decide)) (hb 6 (by decide)) (hnx _ _ (by decide) (by decide)), fun _ => law_years hI hu (hb 1 (by decide)) (hb 2 (by decide)) (hb 3 (by decide)) (hb 4 (by decide)) (hb 5 (by decide)) (hb 6 (by decide)) (hnx _ _ (by decide) (by decide)), fun _ => law_bound hI hu (hb 1 (by decide)) (hb 2 (by decide)) (hb 3 (by decide)) (hb 4 (by decide)) (hb 5 (by decide)) (hb 6 (by decide)) (hnx _ _ (by decide) (by decide)), fun _ => law_loose hI hu (hb 1 (by decide)) (hb 2 (by decide)) (hb 3 (by decide)) (hb 4 (by decide)) (hb 5 (by decide)) (hb 6 (by decide)) (hnx _ _ (by decide) (by decide)), fun _ => law_span hI hu (hb 1 (by decide)) (hb 2 (by decide)) (hb 3 (by decide)) (hb 4 (by decide)) (hb 5 (by decide)) (hb 6 (by decide)) (hnx _ _ (by decide) (by decide)), fun _ => law_clash hI hu (hb 1 (by decide)) (hb 2 (by decide)) (hb 3 (by decide)) (hb 4 (by decide)) (hb 5 (by decide)) (hb 6 (by decide)) (hnx _ _ (by decide) (by decide)), fun _ => law_person hI hu (hb 1 (by decide)) (hb 2 (by decide)) (hb 3 (by decide)) (hb 4 (by decide)) (hb 5 (by decide)) (hb 6 (by decide)) (hnx _ _ (by decide) (by decide)), fun _ => law_one hI hu (hb 1 (by decide)) (hb 2 (by decide)) (hb 3 (by decide)) (hb 4 (by decide)) (hb 5 (by decide)) (hb 6 (by decide)) (hnx _ _ (by decide) (by decide)), fun _ => law_group hI hu (hb 1 (by decide)) (hb 2 (by decide)) (hb 3 (by decide)) (hb 4 (by decide)) (hb 5 (by decide)) (hb 6 (by decide)) (hnx _ _ (by decide) (by decide)), fun _ => law_father hI hu (hb 1 (by decide)) (hb 2 (by decide)) (hb 3 (by decide)) (hb 4 (by decide)) (hb 5 (by decide)) (hb 6 (by decide)) (hnx _ _ (by decide) (by decide)), fun _ => law_print hI hu (hb 1 (by decide)) (hb 2 (by decide)) (hb 3 (by decide)) (hb 4 (by decide)) (hb 5 (by decide)) (hb 6 (by decide)) (hnx _ _ (by decide) (by decide)), fun _ => law_printed hI hu (hb 1 (by decide)) (hb 2 (by decide)) (hb 3 (by decide)) (hb 4 (by decide)) (hb 5 (by decide)) (hb 6 (by decide)) (hnx _ _ (by decide) (by decide)), fun _ => law_back hI hu (hb 1 (by decide)) (hb 2 (by decide)) (hb 3 (by decide)) (hb 4 (by decide)) (hb 5 (by decide)) (hb 6 (by decide)) (hnx _ _ (by decide) (by decide)), fun _ => law_count hI hu (hb 1 (by decide)) (hb 2 (by decide)) (hb 3 (by decide)) (hb 4 (by decide)) (hb 5 (by decide)) (hb 6 (by decide)) (hnx _ _ (by decide) (by decide)), fun _ => law_tray hI hu (hb 1 (by decide)) (hb 2 (by decide)) (hb 3 (by decide)) (hb 4 (by decide)) (hb 5 (by decide)) (hb 6 (by decide)) (hnx _ _ (by decide) (by decide)), fun _ => law_cell hI hu (hb 1 (by decide)) (hb 2 (by decide)) (hb 3 (by decide)) (hb 4 (by decide)) (hb 5 (by decide)) (hb 6 (by decide)) (hnx _ _ (by decide) (by decide)), fun _ => law_lay hI hu (hb 1 (by decide)) (hb 2 (by decide)) (hb 3 (by decide)) (hb 4 (by decide)) (hb 5 (by decide)) (hb 6 (by decide)) (hnx _ _ (by decide) (by decide)), fun _ => law_taken hI hu (hb 1 (by decide)) (hb 2 (by decide)) (hb 3 (by decide)) (hb 4 (by decide)) (hb 5 (by decide)) (hb 6 (by decide)) (hnx _ _ (by decide) (by decide)), trivial⟩
theorem q_goal : qGoal := by
  intro L xs hL
  refine ⟨31, by omega, qWP_of m_L_law rfl rfl [(0, .ref 0)] rfl ?_⟩
  refine law_init fun M hI hxs hN => ?_
  refine qJ_run (qWP_mono _) [18] 10 ?_
  exact law_loop hL (L + 1) 0 94 167295 M (by omega) (by omega) (by omega) (by omega) hI hxs hN

theorem whole_start {p : Program} {e : Env} {s : State} {m : MethodId} {below : List Frame} {meth : Method} {c : Code} (l : Launch) (hflags : l.flags = flags0) {b L : Nat} {xs : Nat → Int32} (hL : L ≤ 3584) (C0 : lw_At p s m meth c b L xs) : W p l e room_1 s m #[Value.ref b] below meth c s.heap [] 0 0 (lw_Z below #[Value.ref b] s) (entryFrame m ([Value.ref b] : List Value).toArray 4) := whole_start_of q_goal l hL C0
set_option maxHeartbeats 4000000 in
theorem lw_walk (l : Launch) (hflags : l.flags = flags0) (b : Addr) (xs : List Int32) : MetFree l x (headSpec (Jvm.Cond.code x code maxLocals ret :: tables_1) room_1) (lw_P b xs) (fun _ _ _ _ _ => True) lw_Q := by
  refine MetFree.of_bodyS (code := code) (maxLocals := maxLocals) (ret := ret) (by decide) ?_ ?_
  · intro args s m h hn
    obtain ⟨meth, c, h1, h2, h3, h4, h5, h6, -, -⟩ := Cond.code_spec hn (atoms_spec (ws := Jvm.Cond.code x code maxLocals ret :: tables_1) h _ List.mem_cons_self)
    exact ⟨meth, c, h1, h2, h3, h4, h5, h6⟩
  · intro p e s m args below meth c s₁ B hml0 hP _
    obtain ⟨rfl, hx, hbd, hgv⟩ := hP
    obtain ⟨scr, harrAt, hlist, hof, hsmall⟩ := hx
    obtain ⟨hcb, hkn, -, -⟩ := State.arrayAt?_spec harrAt
    have hown : s.vm.findClass R_law = some m.cls := findClass_of_methodNamed B.named
    have hts0 : ∀ c ∈ (Jvm.Cond.code x code maxLocals ret :: tables_1), c.before #[Value.ref b] s = true := atoms_spec (ws := Jvm.Cond.code x code maxLocals ret :: tables_1) B.pre
    have hts : ∀ w ∈ lw_tbl, w.before #[Value.ref b] s = true := k2_hts_sels lw_privs (fun w hw => hts0 w (List.mem_cons_of_mem _ hw)) lw_privs_ok
    have hml : c.maxLocals = 4 := B.maxLocals_eq (hts0 _ List.mem_cons_self)
    have X₀ : Stand p l e room_1 s m #[Value.ref b] below meth c s₁ [] 0 0 := Stand.of_body B
    have hh0 : s₁.heap = s.heap := by rw [B.state]; rfl
    have hsz : scr.slots.size = xs.length := by rw [← Array.length_toList, hlist, List.length_map]
    have hval : ∀ j : Nat, j < xs.length → scr.slots[j]? = some (.int (xs.getD j 0)) := fun j hj => by
      rw [← Array.getElem?_toList, hlist]
      simp [hj]
    have hbl : b < s.heap.size := (Array.getElem?_eq_some_iff.mp hcb).1
    have hX : va_X b xs.length (fun j => xs.getD j 0) s s.heap := ⟨scr, hcb, hof, hkn, hsz, hval⟩
    have K : W p l e room_1 s m #[Value.ref b] below meth c s₁.heap [] 0 0 (lw_Z below #[Value.ref b] s) (entryFrame m ([Value.ref b] : List Value).toArray 4) := by
      rw [hh0]
      exact whole_start l hflags hbd ⟨B.exec, B.bytes, B.returns, hml, hown, hts, hX, hbl, B.notSynchronized, hgv⟩
    obtain ⟨t, a1, o, b1, b2, b3⟩ := K s₁ rfl X₀
    exact ⟨t, o, a1, b1, b2, b3⟩
theorem lw_pre_spec {args : Array Value} {s : State} (h : (Jvm.Cond.and given_1 narrow_1).before args s = true) (hr : rest_1_c.before args s = true) : ∃ (b : Addr) (xs : List Int32), lw_P b xs args s := by
  have hs := flat_of_before _ h
  have hq := flat_of_before _ hr
  have hc : (Cond.count 1).before args s = true := hs _ (by decide +kernel)
  have harr : (Cond.arrayOf (.arg 0) .int).before args s = true := hs _ (by decide +kernel)
  have hle : (Cond.le (.length (.arg 0)) (.int 3584)).before args s = true := hs _ (by decide +kernel)
  have hlen : (Cond.isInt (.length (.arg 0))).before args s = true := hq _ (by decide +kernel)
  have hall : (Cond.all (.arg 0) (.isInt (.elem (.arg 0) (.index 0)))).before args s = true := hq _ (by decide +kernel)
  obtain ⟨b, xs, hb, hx⟩ := State.ints_of_pre rfl harr hlen hall
  have hsm : xs.length < 2 ^ 31 := hx.choose_spec.2.2.2
  have hev : (Term.length (.arg 0)).eval args s none [] s = some (.int xs.length.toInt32) := hx.length_eval hb
  have hv := Cond.le_ints hev (show (Term.int 3584).eval args s none [] s = some (.int 3584) from rfl)
  have hd : xs.length.toInt32 ≤ 3584 := by
    simpa [Cond.before, Cond.holds, hv] using hle
  have hN : xs.length ≤ 3584 := (Int32.ofNat_le_ofNat hsm (by decide)).mp (show Int32.ofNat xs.length ≤ Int32.ofNat 3584 from hd)
  exact ⟨b, xs, Cond.one_arg hc (show args[0]? = some (.ref b) from hb), hx, hN, h⟩
theorem lw_comes (l : Launch) (hflags : l.flags = flags0) : Comes l x (Jvm.Cond.code x code maxLocals ret :: tables_1) room_1 (fun tb e args s => Calls_1 tb e args s ∧ rest_1 tb e args s ∧ Pre_1 tb e args s)
    (fun _ _ args s o t => lw_Q args s o t) := by
  intro p e ha hc hk s m args below hf hfit hheap happ hpre
  obtain ⟨b, xs, hP⟩ := lw_pre_spec hpre.2.2 hpre.2.1
  obtain ⟨k, o, h1, h2, h3, hQ⟩ := lw_walk l hflags b xs p e ha hc hk s m args below hf ((Spec.applies_iff_loose hf).mp happ).1 hP trivial
  exact ⟨k, o, h1, h2, h3, hQ⟩
theorem lw_frame {s t : State} {o : Outcome} {args : Array Value} (h : Framed s o t [] 600000 7302250) :
    Framed s o t (fieldLocs frame_1_writes args s ++ arrayLocs frame_1_arrays args s ++ staticLocs frame_1_statics s) 600000 7302250 := h
theorem lw_limb (L : Cond) (hL : ∀ (args : Array Value) (s t : State), L.after args s (.returned (some (.int 1))) t = true) :
    ArmFor flags0 classFile x code maxLocals ret World_1 tables_1 room_1 Calls_1 rest_1 Pre_1
      (fun tb e a s o t => postC L tb e a s o t ∧ Framed s o t (fieldLocs frame_1_writes a s ++ arrayLocs frame_1_arrays a s ++ staticLocs frame_1_statics s) 600000 7302250) := by
  intro l hflags _ _ p e ha hc hk s m args below hf hfit hheap happ hpre
  obtain ⟨k, o, h1, h2, h3, rfl, hF⟩ := lw_comes l hflags p e ha hc hk s m args below hf hfit hheap happ hpre
  exact ⟨k, _, h1, h2, h3, hL args s _, lw_frame hF⟩
theorem i_vc : Claimed_1_1 ∧ Claimed_1_2 := ⟨lw_limb limb_1_1 (fun args s t => by simp [limb_1_1, Cond.after, Cond.holds, Cond.value]), lw_limb limb_1_2 (fun args s t => Cond.after_iff.mpr (by
  first | (rw [show limb_1_2 = Cond.eq .result (.int 1) from rfl, Cond.eq_ints (x := 1) (y := 1) rfl rfl]; simp; done) | (simp [limb_1_2, Cond.value, Term.eval]; done)))⟩
