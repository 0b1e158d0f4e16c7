/-! formulas: the class's operation -/
theorem st_new {T : qT} {cs : qC} {Q : qP} {X : qX} {pc l : Nat} {ls : List (Nat × Value)} {st : List Value} {uc us : Nat} {M : qM} (hq : qFindB (qBl T) pc = some (.new 9, l)) (hph : qPh T = false) (hk : qK (M.1 + 2) = 9) (hc : (uc + 1 ≤ qMc T ∧ us + qNf 9 ≤ qMs T) ∧ qRefs (M.1 + 2) st ∧ qRefs (M.1 + 2) (ls.map Prod.snd)) (hx : X (pc + l) ls (.ref (M.1 + 2) :: st) (uc + 1) (us + qNf 9) (M.1 + 1, M.2.1, qRow M.2.2.1 (M.1 + 2) (fun _ => 0), M.2.2.2.1, qRow M.2.2.2.2 (M.1 + 2) (fun _ => none))) : qStep T cs Q X pc ls st uc us M := by
  unfold qStep
  rw [hq]
  dsimp only
  rw [hph]
  exact qIs_i hk ⟨⟨hc.1.1, hc.1.2, hc.2.1, hc.2.2⟩, hx⟩
theorem st_newL {T : qT} {cs : qC} {Q : qP} {X : qX} {pc l : Nat} {ls : List (Nat × Value)} {n : Int32} {r : List Value} {uc us : Nat} {M : qM} (hq : qFindB (qBl T) pc = some (.newarray .long, l)) (hph : qPh T = false) (hk : qK (M.1 + 2) = 15) (hz : qSz (M.1 + 2) = none) (hc : ¬ n < 0 ∧ n.toNatClampNeg ≤ 100000 ∧ uc + 1 ≤ qMc T ∧ us + n.toNatClampNeg ≤ qMs T) (hr : qRefs (M.1 + 2) r ∧ qRefs (M.1 + 2) (ls.map Prod.snd)) (hx : X (pc + l) ls (.ref (M.1 + 2) :: r) (uc + 1) (us + n.toNatClampNeg) (M.1 + 1, qUp M.2.1 (M.1 + 2) n.toNatClampNeg, qRow M.2.2.1 (M.1 + 2) (fun _ => 0), qRow M.2.2.2.1 (M.1 + 2) (fun _ => 0), M.2.2.2.2)) : qStep T cs Q X pc ls (.int n :: r) uc us M := by
  unfold qStep
  rw [hq]
  dsimp only
  rw [hph]
  refine qIs_i hk ⟨⟨hc.1, hc.2.1, ?_, hc.2.2.1, hc.2.2.2, hr.1, hr.2⟩, hx⟩
  rw [qLen_n hz]
  simp [qUp]
theorem st_put0 {T : qT} {cs : qC} {Q : qP} {X : qX} {pc l h b : Nat} {ls : List (Nat × Value)} {r : List Value} {uc us : Nat} {M : qM} (hq : qFindB (qBl T) pc = some (.putfield 900, l)) (hph : qPh T = false) (hk : qK h = 9) (hl : h < M.1 + 2) (hb : b < M.1 + 2) (hx : X (pc + l) ls r uc us (M.1, M.2.1, M.2.2.1, M.2.2.2.1, q2 M.2.2.2.2 h 0 (some b))) : qStep T cs Q X pc ls (.ref b :: .ref h :: r) uc us M := by
  unfold qStep
  rw [hq]
  have e1 : qTf (900 / 100) (900 % 100) = 2 := by decide
  dsimp only
  rw [e1, hph]
  exact qIs_i hk (qIn_i hl ⟨hb, hx⟩)
theorem mm200 {n : Nat} (h : n ≤ 200) : (if 0 < (if 200 < nI n then 200 else nI n) then (if 200 < nI n then 200 else nI n) else 0) = nI n := by
  have e : ¬ (200 : Int32) < nI n := fun h9 => absurd ((nI_ltI (a := 200) (by omega) (by omega)).mp h9) (by omega)
  rw [if_neg e]
  by_cases h0 : n = 0
  · subst h0; rfl
  · rw [if_pos (show (0 : Int32) < nI n from nI_lt (a := 0) (by omega) (by omega))]
theorem c_X9_init {d z : Nat} {N : Nat → Nat} {I : Nat → Nat → Int32} {L : Nat → Nat → Int64} {R : Nat → Nat → Option Nat} {Q : qP} {n : Nat} (hn : n ≤ 200) (hk : qK (z + 1) = 9) (hk2 : qK (z + 2) = 15) (hz2 : qSz (z + 2) = none) (g : Q none (z + 1, qUp N (z + 2) (2 * n), qRow I (z + 2) (fun _ => 0), qRow L (z + 2) (fun _ => 0), q2 R (z + 1) 0 (some (z + 2)))) : qWP (d + 1) 101 [.ref (z + 1), .int (nI n)] (z, N, I, L, R) Q := by
  refine qWP_of m_X9_init rfl rfl [(0, .ref (z + 1)), (1, .int (nI n))] rfl ?_
  refine qJ_run (qWP_mono _) [18, 20] 400 ?_
  change qJ m_X9_init (qWP _) Q 18 [(0, .ref (z + 1)), (1, .int (nI n))] [.int (2 * (if 0 < (if 200 < (nI n) then 200 else (nI n)) then (if 200 < (nI n) then 200 else (nI n)) else 0)), .ref (z + 1)] _ _ (z, N, I, L, R)
  refine qJ_run (qWP_mono _) [18, 20] 400 ?_
  have e1 := mm200 hn
  have e2 : 2 * (if 0 < (if 200 < nI n then 200 else nI n) then (if 200 < nI n then 200 else nI n) else 0) = nI (2 * n) := by rw [e1]; exact pk_mul 2 n
  rw [e2]
  have e3 : 2 * nI n = nI (2 * n) := pk_mul 2 n
  refine st_newL (M := (z, N, I, L, R)) (n := nI (2 * n)) rfl rfl hk2 hz2 ⟨nI_pos (by omega), by rw [nI_clamp (by omega)]; omega, by decide, ?_⟩ ⟨?_, ?_⟩ ?_
  · rw [nI_clamp (by omega), show qMs m_X9_init = 400 from rfl]; omega
  · exact ⟨show z + 1 < z + 2 by omega, trivial⟩
  · exact ⟨show z + 1 < z + 2 by omega, trivial⟩
  rw [← e3]
  change qJ m_X9_init (qWP _) Q 20 [(0, .ref (z + 1)), (1, .int (nI n))] [.ref (z + 2), .ref (z + 1)] _ _ ((z + 1), (qUp N (z + 2) (2 * nI n).toNatClampNeg), (qRow I (z + 2) (fun _ => 0)), (qRow L (z + 2) (fun _ => 0)), R)
  refine qJ_run (qWP_mono _) [18, 20] 400 ?_
  refine st_put0 rfl rfl hk (show z + 1 < z + 1 + 2 by omega) (show z + 2 < z + 1 + 2 by omega) ?_
  change Q none ((z + 1), (qUp N (z + 2) (2 * nI n).toNatClampNeg), (qRow I (z + 2) (fun _ => 0)), (qRow L (z + 2) (fun _ => 0)), (q2 R (z + 1) 0 (some (z + 2))))
  rw [show 2 * nI n = nI (2 * n) from pk_mul 2 n, nI_clamp (by omega)]
  exact g
theorem stS_up {z z' : Nat} {N : Nat → Nat} {h r k v : Nat} (hS : stS z N h r) (hz : z ≤ z') (hk : h + 1 ≠ k) : stS z' (qUp N k v) h r := by
  obtain ⟨a1, a2, a3, a4, a5, a6⟩ := hS
  exact ⟨a1, a2, a3, by omega, by rw [qUp_ne hk]; exact a5, a6⟩
theorem st_mk {z : Nat} {N N' : Nat → Nat} {I I' : Nat → Nat → Int32} {L L' : Nat → Nat → Int64} {R : Nat → Nat → Option Nat} (h : qStat (z, N, I, L, R)) (hk : qK (z + 2) = 9) (hk2 : qK (z + 3) = 15) : qStat (z + 2, N', I', L', q2 (qRow R (z + 2) (fun _ => none)) (z + 2) 0 (some (z + 3))) := by
  refine ⟨Nat.le_trans h.1 (show z + 2 ≤ z + 2 + 2 by omega), fun k hk9 f c hg => ?_⟩
  replace hk9 : k < z + 2 + 2 := hk9
  show q2 (qRow R (z + 2) (fun _ => none)) (z + 2) 0 (some (z + 3)) k f = some c
  by_cases e1 : k = z + 2
  · subst e1
    unfold qG at hg
    rw [hk] at hg
    by_cases e2 : f = 0
    · subst e2
      rw [q2_at]
      exact hg
    · have : Nat.beq f 0 = false := by
        cases hb : Nat.beq f 0 with
        | false => rfl
        | true => exact absurd (Nat.eq_of_beq_eq_true hb) e2
      rw [this] at hg
      exact absurd hg (by simp)
  · rw [q2_ne e1, qRow_ne e1]
    by_cases e3 : k = z + 3
    · subst e3
      unfold qG at hg
      rw [hk2] at hg
      exfalso
      have : (qGl.getD 15 []).getD f none = none := by
        match f with
        | 0 => rfl
        | n + 1 => rfl
      exact absurd (this.symm.trans hg) (by simp)
    · exact h.2 k (show k < z + 2 by omega) f c hg
theorem addI_selfR {P : List Nat} (h : srt P) : addI ins P.length (P.map some) [] = some P := by
  have h1 : (unI ins (P.map some) []).Perm P := (List.perm_ext_iff_of_nodup (unI_nd pc_ins _ _ .nil) (srt_nd h)).mpr fun x => by rw [unI_mem pc_ins]; simp
  have h2 := (addI_iff (x := unI ins (P.map some) []) pc_ins (r := P.length) (P.map some) [] (by simp)).mpr ⟨by simp, rfl, by rw [h1.length_eq]; exact Nat.le_refl _⟩
  rw [h2, srt_eq (srt_addI _ _ .nil h2) h h1]
theorem c_X9_copy {d z : Nat} {N : Nat → Nat} {I : Nat → Nat → Int32} {L : Nat → Nat → Int64} {R : Nat → Nat → Option Nat} {Q : qP} {h r : Nat} {m : List Nat} (hS : stS z N h r) (hC : hsL I L h m) (hmr : m.length ≤ r) (hst : qStat (z, N, I, L, R)) (hk : qK (z + 2) = 9) (hk2 : qK (z + 3) = 15) (hz2 : qSz (z + 3) = none) (g : ∀ e, rowL e m → Q (some (.ref (z + 2))) (z + 2, (qUp N (z + 3) (2 * m.length)), q2 (qRow (qRow I (z + 2) (fun _ => 0)) (z + 3) (fun _ => 0)) (z + 2) 1 (nI m.length), qRow (qRow L (z + 3) (fun _ => 0)) (z + 3) e, (q2 (qRow R (z + 2) (fun _ => none)) (z + 2) 0 (some (z + 3))))) : qWP (d + 6) 113 [.ref h] (z, N, I, L, R) Q := by
  have hlt := hS.2.2.2.1
  have hm2 : m.length ≤ 200 := Nat.le_trans hmr hS.2.2.2.2.2
  have hhz : h ≠ z + 2 := by omega
  refine qWP_of m_X9_copy rfl rfl [(0, .ref h)] rfl ?_
  refine qJ_run (qWP_mono _) [0, 5, 8, 14] 400 ?_
  refine st_new (M := (z, N, I, L, R)) rfl rfl hk ⟨⟨by decide, by decide⟩, trivial, show h < z + 2 by omega, trivial⟩ ?_
  change qJ m_X9_copy (qWP _) Q 5 [(0, .ref h)] [.ref h, .ref (z + 2), .ref (z + 2)] _ _ ((z + 1), N, (qRow I (z + 2) (fun _ => 0)), L, (qRow R (z + 2) (fun _ => none)))
  refine qJ_run (qWP_mono _) [0, 5, 8, 14] 400 ?_
  refine st_get1 rfl hS.1 (show h < z + 1 + 2 by omega) ?_
  change qJ m_X9_copy (qWP _) Q 8 [(0, .ref h)] [.int ((qRow I (z + 2) (fun _ => 0)) h 1), .ref (z + 2), .ref (z + 2)] _ _ ((z + 1), N, (qRow I (z + 2) (fun _ => 0)), L, (qRow R (z + 2) (fun _ => none)))
  refine qJ_run (qWP_mono _) [0, 5, 8, 14] 400 ?_
  refine ⟨⟨⟨show z + 2 < z + 1 + 2 by omega, trivial⟩, ⟨show h < z + 1 + 2 by omega, trivial⟩⟩, ⟨by decide, by decide⟩, ?_⟩
  have hI1 : (qRow I (z + 2) (fun _ => 0)) h 1 = nI m.length := by rw [qRow_ne hhz]; exact hC.1
  rw [hI1]
  refine c_X9_init (d := d + 4) (z := z + 1) hm2 hk hk2 hz2 ?_
  
  change qJ m_X9_copy (qWP _) Q 14 [(1, .ref (z + 2)), (0, .ref h)] [.ref h, .ref (z + 2)] _ _ ((z + 2), (qUp N (z + 3) (2 * m.length)), (qRow (qRow I (z + 2) (fun _ => 0)) (z + 3) (fun _ => 0)), (qRow L (z + 3) (fun _ => 0)), (q2 (qRow R (z + 2) (fun _ => none)) (z + 2) 0 (some (z + 3))))
  refine qJ_run (qWP_mono _) [0, 5, 8, 14] 400 ?_
  refine st_call rfl (fun _ h => h) hk rfl (show z + 2 < z + 2 + 2 by omega) ?_
  skip
  have hstm : qStat (z + 2, (qUp N (z + 3) (2 * m.length)), (qRow (qRow I (z + 2) (fun _ => 0)) (z + 3) (fun _ => 0)), (qRow L (z + 3) (fun _ => 0)), (q2 (qRow R (z + 2) (fun _ => none)) (z + 2) 0 (some (z + 3)))) := st_mk hst hk hk2
  have hSm : stS (z + 2) (qUp N (z + 3) (2 * m.length)) (z + 2) m.length := ⟨hk, hk2, hz2, by omega, by simp [qUp], hm2⟩
  have hCm : hsL (qRow (qRow I (z + 2) (fun _ => 0)) (z + 3) (fun _ => 0)) (qRow L (z + 3) (fun _ => 0)) (z + 2) [] := ⟨by rw [qRow_ne (by omega), qRow_at]; rfl, rowL_0, srt_0⟩
  have hCh : hsL (qRow (qRow I (z + 2) (fun _ => 0)) (z + 3) (fun _ => 0)) (qRow L (z + 3) (fun _ => 0)) h m := by
    unfold hsL
    rw [qRow_ne (by omega), qRow_ne hhz, qRow_ne (by omega)]
    exact hC
  refine ⟨hstm, ⟨Nat.le_refl _, Nat.le_refl _⟩, ?_⟩
  refine c_X9_addAll (d := d) hSm (stS_up hS (by omega) (by omega)) hhz hCh hmr hCm (by simp) (fun ea => absurd (ea.symm.trans (addI_selfR hC.2.2)) (by simp)) (fun l2 e2 ea hr2 => ?_)
  change Q (some (.ref (z + 2))) ((z + 2), (qUp N (z + 3) (2 * m.length)), (q2 (qRow (qRow I (z + 2) (fun _ => 0)) (z + 3) (fun _ => 0)) (z + 2) 1 (nI l2.length)), (qRow (qRow L (z + 3) (fun _ => 0)) (z + 3) e2), (q2 (qRow R (z + 2) (fun _ => none)) (z + 2) 0 (some (z + 3))))
  obtain rfl : m = l2 := Option.some.inj ((addI_selfR hC.2.2).symm.trans ea)
  exact g e2 hr2
