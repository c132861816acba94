/-! PURE LEVEL 37: the reference reads a term, on -/
theorem m_one {b : Nat → Nat} {L n : Nat} {al : Nat → Int32} {op : Int32} {T : Nat → PR} {RA : (Int32 → Int32 → Int32 → Int32 → Int32 → Int32 → Int32 → Int32 → Int32 → (Nat → Int32) → (Nat → Int32) → Prop) → Int32 → Int32 → Int32 → Int32 → Int32 → Int32 → Int32 → Int32 → Int32 → Int32 → (Nat → Int32) → (Nat → Int32) → Prop} (H : BY b L (fun p => al (10340 + p))) (En : Ed n (TKo b L)) (hB : MR b L n al op (baseP (TKo b L) (VLo b L) T) (fun Q nx wh to nu sg wd ac ra => wX11_atom RA Q (nI L) nx wh to nu sg wd 0 op ac ra al)) (hg : Pg n (baseP (TKo b L) (VLo b L) T)) : MR b L n al op (oneP (TKo b L) (VLo b L) T) (fun Q nx wh to nu sg wd ac ra => wX11_notOf RA Q (nI L) nx wh to nu sg wd 0 op ac ra al) := by
  have hL := H.1
  intro Q i a ra nx wh to nu sg wd hi ha R qT qF
  have pls := PL_s (b := b) (L := L) (i := i)
  unfold wX11_notOf
  unfold oneP at qT qF
  refine m_takes (j := 19) H R (by omega) (fun c nx1 wh1 to1 nu1 sg1 wd1 R1 => ?_) (fun c => ?_)
  · rw [if_pos c] at qT qF
    have l1 := En.lt hi (by omega)
    obtain ⟨p1, p2, p3⟩ := hg (i + 1) (by omega)
    have plk := (PL_le (b := b) (L := L) (i := (baseP (TKo b L) (VLo b L) T (i + 1)).2.1)).2
    have h2 := pls.2.2 (by omega)
    refine hB _ (i + 1) a ra nx1 wh1 to1 nu1 sg1 wd1 (by omega) (by omega) R1 (fun e nx2 wh2 to2 nu2 sg2 wd2 ra2 R2 A2 B2 => ip_F (by decide) ?_) (fun e nx2 wh2 to2 nu2 sg2 wd2 op2 a2 ra2 B2 => ip_F (by decide) ?_)
    · rw [if_pos e] at qT
      unfold Bd at B2
      refine m_emit (by omega) ?_
      have key := qT rfl nx2 wh2 to2 nu2 sg2 wd2 _ R2 (A2.app (AcR.one (Or.inl ⟨rfl, rfl, rfl, rfl⟩))) ?_
      · have el : ((true, (baseP (TKo b L) (VLo b L) T (i + 1)).2.1, (baseP (TKo b L) (VLo b L) T (i + 1)).2.2 ++ [-1]) : PR).2.2.length = (baseP (TKo b L) (VLo b L) T (i + 1)).2.2.length + 1 := by
          show ((baseP (TKo b L) (VLo b L) T (i + 1)).2.2 ++ [-1]).length = _
          rw [List.length_append]; rfl
        rw [el] at key
        exact key
      · show 2 * (a + ((baseP (TKo b L) (VLo b L) T (i + 1)).2.2 ++ [-1]).length) + PLo b L i ≤ 2 * a + PLo b L (baseP (TKo b L) (VLo b L) T (i + 1)).2.1
        rw [List.length_append]
        show 2 * (a + ((baseP (TKo b L) (VLo b L) T (i + 1)).2.2.length + 1)) + PLo b L i ≤ 2 * a + PLo b L (baseP (TKo b L) (VLo b L) T (i + 1)).2.1
        omega
    · rw [if_neg (by rw [e]; simp)] at qF
      unfold Bd at B2
      refine m_emit (by omega) (qF rfl nx2 wh2 to2 nu2 sg2 wd2 op2 (a2 + 1) _ ?_)
      show 2 * (a2 + 1) + PLo b L i ≤ 2 * a + PLo b L (baseP (TKo b L) (VLo b L) T (i + 1)).2.1
      omega
  · rw [if_neg c] at qT qF
    exact hB _ i a ra nx wh to nu sg wd hi ha R (fun e nx2 wh2 to2 nu2 sg2 wd2 ra2 R2 A2 B2 => ip_T rfl (qT e nx2 wh2 to2 nu2 sg2 wd2 ra2 R2 A2 B2)) (fun e nx2 wh2 to2 nu2 sg2 wd2 op2 a2 ra2 B2 => ip_T rfl (qF e nx2 wh2 to2 nu2 sg2 wd2 op2 a2 ra2 B2))
theorem m_all_loop {b : Nat → Nat} {L n : Nat} {al : Nat → Int32} {op : Int32} {E : Nat → PR} {RA : (Int32 → Int32 → Int32 → Int32 → Int32 → Int32 → Int32 → Int32 → Int32 → (Nat → Int32) → (Nat → Int32) → Prop) → Int32 → Int32 → Int32 → Int32 → Int32 → Int32 → Int32 → Int32 → Int32 → Int32 → (Nat → Int32) → (Nat → Int32) → Prop} (H : BY b L (fun p => al (10340 + p))) (En : Ed n (TKo b L)) (hE : MR b L n al op E (fun Q nx wh to nu sg wd ac ra => wX11_notOf RA Q (nI L) nx wh to nu sg wd 0 op ac ra al)) (hg : Pg n E) {Q : Int32 → Int32 → Int32 → Int32 → Int32 → Int32 → Int32 → Int32 → Int32 → (Nat → Int32) → (Nat → Int32) → Prop} {i0 a0 : Nat} {ra0 : Nat → Int32} (h0 : 2 * a0 ≤ PLo b L i0) : ∀ (f j : Nat) (l : List Int32) (ra : Nat → Int32) (nx wh to nu sg wd : Int32), j ≤ n → n < j + f → RT b L j nx wh to nu sg wd → AcR a0 l ra0 ra → Bd b L a0 i0 (a0 + l.length) j →
    ((lopP (TKo b L) 18 (-2) E f j l).1 = true → ∀ nx' wh' to' nu' sg' wd' ra', RT b L (lopP (TKo b L) 18 (-2) E f j l).2.1 nx' wh' to' nu' sg' wd' → AcR a0 (lopP (TKo b L) 18 (-2) E f j l).2.2 ra0 ra' → Bd b L a0 i0 (a0 + (lopP (TKo b L) 18 (-2) E f j l).2.2.length) (lopP (TKo b L) 18 (-2) E f j l).2.1 → Q nx' wh' to' nu' sg' wd' 0 op (nI (a0 + (lopP (TKo b L) 18 (-2) E f j l).2.2.length)) ra' al) →
    ((lopP (TKo b L) 18 (-2) E f j l).1 = false → ∀ nx' wh' to' nu' sg' wd' op' a' ra', Bd b L a0 i0 a' (lopP (TKo b L) 18 (-2) E f j l).2.1 → Q nx' wh' to' nu' sg' wd' 1 op' (nI a') ra' (stA al (PLo b L (lopP (TKo b L) 18 (-2) E f j l).2.1))) → wX11_allOf_4 RA Q (f + 1) (nI L) nx wh to nu sg wd 0 op (nI (a0 + l.length)) ra al := by
  have hL := H.1
  intro f
  induction f with
  | zero => intro j l ra nx wh to nu sg wd h1 h2; omega
  | succ f ih =>
    intro j l ra nx wh to nu sg wd h1 h2 R A B gT gF
    rw [lopP_s] at gT gF
    unfold Bd at B
    have pls := PL_s (b := b) (L := L) (i := j)
    refine m_takes (j := 18) H R (by omega) (fun c nx1 wh1 to1 nu1 sg1 wd1 R1 => ip_F (by decide) ?_) (fun c => ip_T rfl ?_)
    · rw [if_pos c] at gT gF
      have l1 := En.lt h1 (by omega)
      have h3 := pls.2.2 (by omega)
      obtain ⟨r1, r2, r3⟩ := hg (j + 1) (by omega)
      have plk := (PL_le (b := b) (L := L) (i := (E (j + 1)).2.1)).2
      refine hE _ (j + 1) (a0 + l.length) ra nx1 wh1 to1 nu1 sg1 wd1 (by omega) (by omega) R1 (fun e nx2 wh2 to2 nu2 sg2 wd2 ra2 R2 A2 B2 => ?_) (fun e nx2 wh2 to2 nu2 sg2 wd2 op2 a2 ra2 B2 => ?_)
      · rw [if_pos e] at gT gF
        obtain ⟨r4, r5⟩ := r3 e
        unfold Bd at B2
        refine m_emit (by omega) ?_
        have A3 := A.app (A2.app (AcR.one (a := a0 + l.length + (E (j + 1)).2.2.length) (ra := ra2) (s := -2) (x := 32) (y := 0) (z := 0) (Or.inr (Or.inl ⟨rfl, rfl, rfl, rfl⟩))))
        have el : a0 + l.length + (E (j + 1)).2.2.length + 1 = a0 + (l ++ ((E (j + 1)).2.2 ++ [-2])).length := by
          rw [List.length_append, List.length_append]
          show a0 + l.length + (E (j + 1)).2.2.length + 1 = a0 + (l.length + ((E (j + 1)).2.2.length + 1))
          omega
        rw [el]
        refine ih _ _ _ nx2 wh2 to2 nu2 sg2 wd2 r2 (by omega) R2 A3 ?_ gT gF
        unfold Bd
        rw [← el]
        omega
      · rw [if_neg (by rw [e]; simp)] at gF
        unfold Bd at B2
        refine m_emit (by omega) ?_
        cases f with
        | zero => omega
        | succ f =>
          refine m_takesW (ip_T rfl (gF rfl nx2 wh2 to2 nu2 sg2 wd2 _ (a2 + 1) _ ?_))
          show 2 * (a2 + 1) + PLo b L i0 ≤ 2 * a0 + PLo b L (E (j + 1)).2.1
          omega
    · rw [if_neg c] at gT
      exact gT rfl nx wh to nu sg wd ra R A B
theorem m_all {b : Nat → Nat} {L n : Nat} {al : Nat → Int32} {op : Int32} {E : Nat → PR} {RA : (Int32 → Int32 → Int32 → Int32 → Int32 → Int32 → Int32 → Int32 → Int32 → (Nat → Int32) → (Nat → Int32) → Prop) → Int32 → Int32 → Int32 → Int32 → Int32 → Int32 → Int32 → Int32 → Int32 → Int32 → (Nat → Int32) → (Nat → Int32) → Prop} (H : BY b L (fun p => al (10340 + p))) (En : Ed n (TKo b L)) (hE : MR b L n al op E (fun Q nx wh to nu sg wd ac ra => wX11_notOf RA Q (nI L) nx wh to nu sg wd 0 op ac ra al)) (hg : Pg n E) : MR b L n al op (seqP (TKo b L) 18 (-2) E) (fun Q nx wh to nu sg wd ac ra => wX11_allOf RA Q (nI L) nx wh to nu sg wd 0 op ac ra al) := by
  have hn := En.1
  intro Q i a ra nx wh to nu sg wd hi ha R qT qF
  unfold wX11_allOf
  unfold seqP at qT qF
  obtain ⟨p1, p2, p3⟩ := hg i hi
  refine hE _ i a ra nx wh to nu sg wd hi ha R (fun e nx2 wh2 to2 nu2 sg2 wd2 ra2 R2 A2 B2 => ?_) (fun e nx2 wh2 to2 nu2 sg2 wd2 op2 a2 ra2 B2 => ?_)
  · rw [if_pos e] at qT qF
    exact ⟨402, m_all_loop H En hE hg ha 401 _ _ ra2 nx2 wh2 to2 nu2 sg2 wd2 p2 (by omega) R2 A2 B2 qT qF⟩
  · rw [if_neg (by rw [e]; simp)] at qF
    exact ⟨1, m_takesW (ip_T rfl (qF rfl nx2 wh2 to2 nu2 sg2 wd2 op2 a2 ra2 B2))⟩
theorem m_any_loop {b : Nat → Nat} {L n : Nat} {al : Nat → Int32} {op : Int32} {E : Nat → PR} {RA : (Int32 → Int32 → Int32 → Int32 → Int32 → Int32 → Int32 → Int32 → Int32 → (Nat → Int32) → (Nat → Int32) → Prop) → Int32 → Int32 → Int32 → Int32 → Int32 → Int32 → Int32 → Int32 → Int32 → Int32 → (Nat → Int32) → (Nat → Int32) → Prop} (H : BY b L (fun p => al (10340 + p))) (En : Ed n (TKo b L)) (hE : MR b L n al op E (fun Q nx wh to nu sg wd ac ra => wX11_allOf RA Q (nI L) nx wh to nu sg wd 0 op ac ra al)) (hg : Pg n E) {Q : Int32 → Int32 → Int32 → Int32 → Int32 → Int32 → Int32 → Int32 → Int32 → (Nat → Int32) → (Nat → Int32) → Prop} {i0 a0 : Nat} {ra0 : Nat → Int32} (h0 : 2 * a0 ≤ PLo b L i0) : ∀ (f j : Nat) (l : List Int32) (ra : Nat → Int32) (nx wh to nu sg wd : Int32), j ≤ n → n < j + f → RT b L j nx wh to nu sg wd → AcR a0 l ra0 ra → Bd b L a0 i0 (a0 + l.length) j →
    ((lopP (TKo b L) 17 (-3) E f j l).1 = true → ∀ nx' wh' to' nu' sg' wd' ra', RT b L (lopP (TKo b L) 17 (-3) E f j l).2.1 nx' wh' to' nu' sg' wd' → AcR a0 (lopP (TKo b L) 17 (-3) E f j l).2.2 ra0 ra' → Bd b L a0 i0 (a0 + (lopP (TKo b L) 17 (-3) E f j l).2.2.length) (lopP (TKo b L) 17 (-3) E f j l).2.1 → Q nx' wh' to' nu' sg' wd' 0 (op - 1) (nI (a0 + (lopP (TKo b L) 17 (-3) E f j l).2.2.length)) ra' al) →
    ((lopP (TKo b L) 17 (-3) E f j l).1 = false → ∀ nx' wh' to' nu' sg' wd' op' a' ra', Bd b L a0 i0 a' (lopP (TKo b L) 17 (-3) E f j l).2.1 → Q nx' wh' to' nu' sg' wd' 1 op' (nI a') ra' (stA al (PLo b L (lopP (TKo b L) 17 (-3) E f j l).2.1))) → wX11_anyOf_35 RA Q (f + 1) (nI L) nx wh to nu sg wd 0 op (nI (a0 + l.length)) ra al := by
  have hL := H.1
  intro f
  induction f with
  | zero => intro j l ra nx wh to nu sg wd h1 h2; omega
  | succ f ih =>
    intro j l ra nx wh to nu sg wd h1 h2 R A B gT gF
    rw [lopP_s] at gT gF
    unfold Bd at B
    have pls := PL_s (b := b) (L := L) (i := j)
    refine m_takes (j := 17) H R (by omega) (fun c nx1 wh1 to1 nu1 sg1 wd1 R1 => ip_F (by decide) ?_) (fun c => ip_T rfl ?_)
    · rw [if_pos c] at gT gF
      have l1 := En.lt h1 (by omega)
      have h3 := pls.2.2 (by omega)
      obtain ⟨r1, r2, r3⟩ := hg (j + 1) (by omega)
      have plk := (PL_le (b := b) (L := L) (i := (E (j + 1)).2.1)).2
      refine hE _ (j + 1) (a0 + l.length) ra nx1 wh1 to1 nu1 sg1 wd1 (by omega) (by omega) R1 (fun e nx2 wh2 to2 nu2 sg2 wd2 ra2 R2 A2 B2 => ?_) (fun e nx2 wh2 to2 nu2 sg2 wd2 op2 a2 ra2 B2 => ?_)
      · rw [if_pos e] at gT gF
        obtain ⟨r4, r5⟩ := r3 e
        unfold Bd at B2
        refine m_emit (by omega) ?_
        have A3 := A.app (A2.app (AcR.one (a := a0 + l.length + (E (j + 1)).2.2.length) (ra := ra2) (s := -3) (x := 31) (y := 0) (z := 0) (Or.inr (Or.inr (Or.inl ⟨rfl, rfl, rfl, rfl⟩)))))
        have el : a0 + l.length + (E (j + 1)).2.2.length + 1 = a0 + (l ++ ((E (j + 1)).2.2 ++ [-3])).length := by
          rw [List.length_append, List.length_append]
          show a0 + l.length + (E (j + 1)).2.2.length + 1 = a0 + (l.length + ((E (j + 1)).2.2.length + 1))
          omega
        rw [el]
        refine ih _ _ _ nx2 wh2 to2 nu2 sg2 wd2 r2 (by omega) R2 A3 ?_ gT gF
        unfold Bd
        rw [← el]
        omega
      · rw [if_neg (by rw [e]; simp)] at gF
        unfold Bd at B2
        refine m_emit (by omega) ?_
        cases f with
        | zero => omega
        | succ f =>
          refine m_takesW (ip_T rfl (gF rfl nx2 wh2 to2 nu2 sg2 wd2 _ (a2 + 1) _ ?_))
          show 2 * (a2 + 1) + PLo b L i0 ≤ 2 * a0 + PLo b L (E (j + 1)).2.1
          omega
    · rw [if_neg c] at gT
      exact gT rfl nx wh to nu sg wd ra R A B
theorem m_term {b : Nat → Nat} {L n : Nat} {al : Nat → Int32} (H : BY b L (fun p => al (10340 + p))) (En : Ed n (TKo b L)) (hv : ∀ j, VLo b L j < 10000) : ∀ d, d ≤ 8 → MR b L n al (nI (8 - d)) (tmP (TKo b L) (VLo b L) d) (fun Q nx wh to nu sg wd ac ra => wX11_anyOf_d (d + 2) Q (nI L) nx wh to nu sg wd 0 (nI (8 - d)) ac ra al) := by
  have hn := En.1
  intro d
  induction d with
  | zero =>
    intro _ Q i a ra nx wh to nu sg wd hi ha R qT qF
    show wX11_anyOf_b (wX11_anyOf_d 1) Q (nI L) nx wh to nu sg wd 0 (nI 8) (nI a) ra al
    unfold wX11_anyOf_b
    refine ip_T' (by decide) ?_
    rw [R.2.1]
    refine m_stops ?_
    unfold wX11_anyOf_13
    exact ip_F (by decide) (qF rfl nx _ to nu sg wd _ a ra (Nat.le_refl _))
  | succ d ih =>
    intro hd Q i a ra nx wh to nu sg wd hi ha R qT qF
    have pg := tm_pg (vl := VLo b L) En d
    have e8 : nI (8 - (d + 1)) + 1 = nI (8 - d) := by rw [nI_1, show 8 - (d + 1) + 1 = 8 - d by omega]
    have base := m_base (RA := wX11_anyOf_d (d + 2)) H En hv pg (ih (by omega))
    have bpg := base_pg (vl := VLo b L) En pg
    have one := m_one H En base bpg
    have og := one_pg (vl := VLo b L) En pg
    have all' := m_all H En one og
    have ag := seq_pg (c := (-2 : Int32)) (w := 18) En (by omega) og
    show wX11_anyOf_b (wX11_anyOf_d (d + 2)) Q (nI L) nx wh to nu sg wd 0 (nI (8 - (d + 1))) (nI a) ra al
    unfold wX11_anyOf_b
    refine ip_F' (by rw [show (8 : Int32) = nI 8 from rfl, nI_eq (by omega) (by omega)]; omega) ?_
    unfold wX11_anyOf_13
    refine ip_T rfl ?_
    rw [e8]
    have qT' : (seqP (TKo b L) 17 (-3) (seqP (TKo b L) 18 (-2) (oneP (TKo b L) (VLo b L) (tmP (TKo b L) (VLo b L) d))) i).1 = true → ∀ nx' wh' to' nu' sg' wd' ra', RT b L (seqP (TKo b L) 17 (-3) (seqP (TKo b L) 18 (-2) (oneP (TKo b L) (VLo b L) (tmP (TKo b L) (VLo b L) d))) i).2.1 nx' wh' to' nu' sg' wd' → AcR a (seqP (TKo b L) 17 (-3) (seqP (TKo b L) 18 (-2) (oneP (TKo b L) (VLo b L) (tmP (TKo b L) (VLo b L) d))) i).2.2 ra ra' → Bd b L a i (a + (seqP (TKo b L) 17 (-3) (seqP (TKo b L) 18 (-2) (oneP (TKo b L) (VLo b L) (tmP (TKo b L) (VLo b L) d))) i).2.2.length) (seqP (TKo b L) 17 (-3) (seqP (TKo b L) 18 (-2) (oneP (TKo b L) (VLo b L) (tmP (TKo b L) (VLo b L) d))) i).2.1 → Q nx' wh' to' nu' sg' wd' 0 (nI (8 - (d + 1))) (nI (a + (seqP (TKo b L) 17 (-3) (seqP (TKo b L) 18 (-2) (oneP (TKo b L) (VLo b L) (tmP (TKo b L) (VLo b L) d))) i).2.2.length)) ra' al := qT
    have qF' : (seqP (TKo b L) 17 (-3) (seqP (TKo b L) 18 (-2) (oneP (TKo b L) (VLo b L) (tmP (TKo b L) (VLo b L) d))) i).1 = false → ∀ nx' wh' to' nu' sg' wd' op' a' ra', Bd b L a i a' (seqP (TKo b L) 17 (-3) (seqP (TKo b L) 18 (-2) (oneP (TKo b L) (VLo b L) (tmP (TKo b L) (VLo b L) d))) i).2.1 → Q nx' wh' to' nu' sg' wd' 1 op' (nI a') ra' (stA al (PLo b L (seqP (TKo b L) 17 (-3) (seqP (TKo b L) 18 (-2) (oneP (TKo b L) (VLo b L) (tmP (TKo b L) (VLo b L) d))) i).2.1)) := qF
    clear qT qF
    generalize hEE : seqP (TKo b L) 18 (-2) (oneP (TKo b L) (VLo b L) (tmP (TKo b L) (VLo b L) d)) = E at qT' qF' all' ag
    unfold seqP at qT' qF'
    obtain ⟨p1, p2, p3⟩ := ag i hi
    have em : nI (8 - d) - 1 = nI (8 - (d + 1)) := by rw [show (1 : Int32) = nI 1 from rfl, pk_sub (by omega), show 8 - d - 1 = 8 - (d + 1) by omega]
    refine all' _ i a ra nx wh to nu sg wd hi ha R (fun e nx2 wh2 to2 nu2 sg2 wd2 ra2 R2 A2 B2 => ?_) (fun e nx2 wh2 to2 nu2 sg2 wd2 op2 a2 ra2 B2 => ?_)
    · rw [if_pos e] at qT' qF'
      refine ⟨402, m_any_loop H En all' ag ha 401 _ _ ra2 nx2 wh2 to2 nu2 sg2 wd2 p2 (by omega) R2 A2 B2 ?_ qF'⟩
      rw [em]
      exact qT'
    · rw [if_neg (by rw [e]; simp)] at qF'
      exact ⟨1, m_takesW (ip_T rfl (qF' rfl nx2 wh2 to2 nu2 sg2 wd2 _ a2 ra2 B2))⟩
/-- the steps of a term: one answer more, never more than 20 open -/
def depL : List Int32 → Nat → Option Nat
  | [], d => some d
  | x :: r, d => if x = -1 then (if 1 ≤ d then depL r d else none) else if x = -2 ∨ x = -3 then (if 2 ≤ d then depL r (d - 1) else none) else if d < 20 then depL r (d + 1) else none
theorem depL_app : ∀ (l1 l2 : List Int32) (d d' : Nat), depL l1 d = some d' → depL (l1 ++ l2) d = depL l2 d' := by
  intro l1
  induction l1 with
  | nil => intro l2 d d' h; have h' : some d = some d' := h; rw [← Option.some.inj h']; rfl
  | cons x r ih =>
    intro l2 d d' h
    show (if x = -1 then (if 1 ≤ d then depL (r ++ l2) d else none) else if x = -2 ∨ x = -3 then (if 2 ≤ d then depL (r ++ l2) (d - 1) else none) else if d < 20 then depL (r ++ l2) (d + 1) else none) = _
    have h' : (if x = -1 then (if 1 ≤ d then depL r d else none) else if x = -2 ∨ x = -3 then (if 2 ≤ d then depL r (d - 1) else none) else if d < 20 then depL r (d + 1) else none) = some d' := h
    by_cases c1 : x = -1
    · rw [if_pos c1] at h' ⊢
      by_cases c2 : 1 ≤ d
      · rw [if_pos c2] at h' ⊢; exact ih l2 d d' h'
      · rw [if_neg c2] at h'; exact absurd h' (by simp)
    · rw [if_neg c1] at h' ⊢
      by_cases c3 : x = -2 ∨ x = -3
      · rw [if_pos c3] at h' ⊢
        by_cases c2 : 2 ≤ d
        · rw [if_pos c2] at h' ⊢; exact ih l2 _ d' h'
        · rw [if_neg c2] at h'; exact absurd h' (by simp)
      · rw [if_neg c3] at h' ⊢
        by_cases c2 : d < 20
        · rw [if_pos c2] at h' ⊢; exact ih l2 _ d' h'
        · rw [if_neg c2] at h'; exact absurd h' (by simp)
def Dp (m : Nat) (E : Nat → PR) : Prop := ∀ i d, d + m ≤ 20 → (E i).1 = true → depL (E i).2.2 d = some (d + 1)
theorem Dp.mono {m m' : Nat} {E : Nat → PR} (h : Dp m E) (hm : m ≤ m') : Dp m' E := fun i d hd => h i d (by omega)
theorem dp_cmp {tk vl : Nat → Nat} (hv : ∀ j, vl j < 10000) (htk : ∀ j, tk j < 1000) : Dp 1 (cmpP tk vl) := by
  intro i d hd h
  unfold cmpP at h ⊢
  by_cases c : tk i ≤ 12
  · rw [if_pos c] at h ⊢
    by_cases e : tk (i + 1) = 60 ∨ tk (i + 1) = 61 ∨ tk (i + 1) = 62
    · rw [if_pos e] at h ⊢
      by_cases f : tk (i + 2) = 256
      · rw [if_pos f]
        have hv2 := hv (i + 2)
        have nn : ∀ z : Int32, z < 0 → ¬ nI (tk i * 4194304 + tk (i + 1) * 16384 + vl (i + 2)) = z := fun z hz q => by
          rw [← q] at hz; exact nI_pos (by omega) hz
        show (if nI (tk i * 4194304 + tk (i + 1) * 16384 + vl (i + 2)) = -1 then (if 1 ≤ d then depL [] d else none) else if nI (tk i * 4194304 + tk (i + 1) * 16384 + vl (i + 2)) = -2 ∨ nI (tk i * 4194304 + tk (i + 1) * 16384 + vl (i + 2)) = -3 then (if 2 ≤ d then depL [] (d - 1) else none) else if d < 20 then depL [] (d + 1) else none) = some (d + 1)
        rw [if_neg (nn (-1) (by decide)), if_neg (fun q => q.elim (nn (-2) (by decide)) (nn (-3) (by decide))), if_pos (by omega)]
        rfl
      · rw [if_neg f] at h; exact absurd h (by simp)
    · rw [if_neg e] at h; exact absurd h (by simp)
  · rw [if_neg c] at h; exact absurd h (by simp)
theorem dp_one {tk vl : Nat → Nat} {T : Nat → PR} {m : Nat} (hv : ∀ j, vl j < 10000) (htk : ∀ j, tk j < 1000) (hm : 1 ≤ m) (hT : Dp m T) : Dp m (oneP tk vl T) := by
  have base : Dp m (baseP tk vl T) := by
    intro i d hd h
    unfold baseP at h ⊢
    by_cases c : tk i = 40
    · rw [if_pos c] at h ⊢
      unfold parP at h ⊢
      by_cases e : (T (i + 1)).1 = true
      · rw [if_pos e] at h ⊢
        by_cases f : tk (T (i + 1)).2.1 = 41
        · rw [if_pos f]; exact hT (i + 1) d hd e
        · rw [if_neg f] at h; exact absurd h (by simp)
      · rw [if_neg e] at h; exact absurd h (by simp)
    · rw [if_neg c] at h ⊢
      exact (dp_cmp hv htk).mono hm i d hd h
  intro i d hd h
  unfold oneP at h ⊢
  by_cases c : tk i = 19
  · rw [if_pos c] at h ⊢
    by_cases e : (baseP tk vl T (i + 1)).1 = true
    · rw [if_pos e]
      have h1 := base (i + 1) d hd e
      show depL ((baseP tk vl T (i + 1)).2.2 ++ [-1]) d = _
      rw [depL_app _ _ _ _ h1]
      show (if (-1 : Int32) = -1 then (if 1 ≤ d + 1 then depL [] (d + 1) else none) else _) = _
      rw [if_pos rfl, if_pos (by omega)]; rfl
    · rw [if_neg e] at h; exact absurd h (by simp)
  · rw [if_neg c] at h ⊢
    exact base i d hd h
theorem dp_seq {tk : Nat → Nat} {E : Nat → PR} {m w : Nat} {c : Int32} (hc : c = -2 ∨ c = -3) (hE : Dp m E) : Dp (m + 1) (seqP tk w c E) := by
  intro i d hd h
  unfold seqP at h ⊢
  by_cases e : (E i).1 = true
  · rw [if_pos e] at h ⊢
    have lp : ∀ (f j : Nat) (l : List Int32), depL l d = some (d + 1) → (lopP tk w c E f j l).1 = true → depL (lopP tk w c E f j l).2.2 d = some (d + 1) := by
      intro f
      induction f with
      | zero => intro j l hl _; exact hl
      | succ f ih =>
        intro j l hl h
        rw [lopP_s] at h ⊢
        by_cases a : tk j = w
        · rw [if_pos a] at h ⊢
          by_cases e2 : (E (j + 1)).1 = true
          · rw [if_pos e2] at h ⊢
            refine ih _ _ ?_ h
            rw [depL_app _ _ _ _ hl, depL_app _ _ _ _ (hE (j + 1) (d + 1) (by omega) e2)]
            show (if c = -1 then (if 1 ≤ d + 1 + 1 then depL [] (d + 1 + 1) else none) else if c = -2 ∨ c = -3 then (if 2 ≤ d + 1 + 1 then depL [] (d + 1 + 1 - 1) else none) else if d + 1 + 1 < 20 then depL [] (d + 1 + 1 + 1) else none) = some (d + 1)
            have c1 : ¬ c = -1 := by rcases hc with q | q <;> rw [q] <;> decide
            rw [if_neg c1, if_pos hc, if_pos (by omega)]
            rfl
          · rw [if_neg e2] at h; exact absurd h (by simp)
        · rw [if_neg a]
          exact hl
    exact lp 401 _ _ (hE i d (by omega) e) h
  · rw [if_neg e] at h; exact absurd h (by simp)
theorem dp_tm {tk vl : Nat → Nat} (hv : ∀ j, vl j < 10000) (htk : ∀ j, tk j < 1000) : ∀ d, Dp (2 * d + 1) (tmP tk vl d) := by
  intro d
  induction d with
  | zero => intro i d' _ h; exact absurd h (by simp [tmP])
  | succ d ih => exact dp_seq (Or.inr rfl) (dp_seq (Or.inl rfl) (dp_one hv htk (by omega) ih))
