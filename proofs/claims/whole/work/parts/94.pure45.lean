/-! PURE LEVEL 44: image and again, both -/
/-- image k's block of the reference's row -/
def slI (all : Nat → Int32) (k : Nat) : Nat → Int32 := fun i => all (10740 * (k + 1) + i)
/-- the images that are kept, and the reference's -/
def ImR (om : Nat → Option OR) (all has : Nat → Int32) (images : Nat → Option Nat) (iw : Nat → WH) : Prop := ∀ k, k < 3 → (images k = none ∧ has k = 0) ∨ (∃ h, images k = some h ∧ has k = 1 ∧ WfW (iw k) ∧ RW om (slI all k) (iw k))
theorem ImR.ok {om om' : Nat → Option OR} {all all' has : Nat → Int32} {images : Nat → Option Nat} {iw : Nat → WH} (H : ImR om all has images iw) (hx : ∀ a q, om a = some q → om' a = some q) (h : ∀ i, (10740 ≤ i ∧ i < 42960) → all' i = all i) : ImR om' all' has images iw := by
  intro k hk
  rcases H k hk with q | ⟨a, e1, e2, W, R⟩
  · exact Or.inl q
  · refine Or.inr ⟨a, e1, e2, W, ?_⟩
    refine RW.congr (all := slI all k) (R.ext hx) W (fun i hi => ?_)
    exact h _ ⟨by omega, by omega⟩
theorem sim_again_n {all has : Nat → Int32} {images : Nat → Option Nat} {y1 : Int32} {K : Int32 → Int32 → (Nat → Int32) → Prop} (c : inI y1 0 2 = 0 ∨ ∃ k, k < 3 ∧ y1 = nI k ∧ images k = none ∧ has k = 0) (hK : K 0 0 all) :
    wX10_again_n (fun r => wX11_again (fun r2 all' => K r r2 all') y1 all has) y1 images := by
  unfold wX10_again_n wX11_again
  simp only [p_within, p_isIn]
  refine ip_split (fun c => ip_T c hK) (fun d => ?_)
  rcases c with e | ⟨k, hk, e, h1, h2⟩
  · exact absurd e d
  · subst e
    have v : vp_in (nI k) 3 := vp_in_nI (show k < 3 by omega) (by omega)
    rw [nI_clamp (by omega)]
    exact ⟨v, h1, ip_F d ⟨v, ip_T' h2 hK⟩⟩
theorem sim_again_s {om : Nat → Option OR} {all has : Nat → Int32} {images : Nat → Option Nat} {k h : Nat} {w : WH} (hk : k < 3) (e1 : images k = some h) (e2 : has k = 1) (W : WfW w) (R : RW om (slI all k) w) {b1 b2 b3 b4 b5 b6 b7 b8 b9 b10 b11 b12 : Int32} {c1 c2 c3 c4 c5 c6 c7 c8 c10 c11 c12 c13 c14 c15 c16 c17 c18 c19 c20 c21 : Nat → Int32} {c9 : Nat → Option Nat} {K : Int32 → Int32 → Int32 → Int32 → Int32 → Int32 → Int32 → Int32 → Int32 → Int32 → Int32 → Int32 → Int32 → (Nat → Int32) → (Nat → Int32) → (Nat → Int32) → (Nat → Int32) → (Nat → Int32) → (Nat → Int32) → (Nat → Int32) → (Nat → Int32) → (Nat → Option Nat) → (Nat → Int32) → (Nat → Int32) → (Nat → Int32) → (Nat → Int32) → (Nat → Int32) → (Nat → Int32) → (Nat → Int32) → (Nat → Int32) → (Nat → Int32) → (Nat → Int32) → (Nat → Int32) → (Nat → Int32) → Int32 → (Nat → Int32) → Prop}
    (hK : ∀ w' all', Ok om all w' all' → K 1 w'.fault w'.place (nI w'.psize) (nI w'.ssize) (nI w'.g.hour) (nI w'.g.size) (nI w'.g.rows) (nI w'.g.cols) w'.g.laid w'.g.grown w'.g.melted (nI w'.tlen) w'.frm w'.settled w'.takes w'.worth w'.g.done w'.g.fuel w'.g.line w'.g.moved w'.g.ord w'.g.place w'.g.str w'.g.told w'.g.chan w'.g.fast w'.g.level w'.g.ridged w'.g.sea w'.g.cold w'.g.force w'.g.way w'.tape 1 all') :
    wX10_again_s (fun r v1 v2 v3 v4 v5 v6 v7 v8 v9 v10 v11 v12 v13 v14 v15 v16 v17 v18 v19 v20 v21 v22 v23 v24 v25 v26 v27 v28 v29 v30 v31 v32 v33 => wX11_again (fun r2 all' => K r v1 v2 v3 v4 v5 v6 v7 v8 v9 v10 v11 v12 v13 v14 v15 v16 v17 v18 v19 v20 v21 v22 v23 v24 v25 v26 v27 v28 v29 v30 v31 v32 v33 r2 all') (nI k) all has) h om (nI k) w.fault w.place (nI w.psize) (nI w.ssize) (nI w.g.hour) (nI w.g.size) (nI w.g.rows) (nI w.g.cols) w.g.laid w.g.grown w.g.melted (nI w.tlen) b1 b2 b3 b4 b5 b6 b7 b8 b9 b10 b11 b12 w.frm w.settled w.takes w.worth w.g.done w.g.fuel w.g.line w.g.moved w.g.ord w.g.place w.g.str w.g.told w.g.chan w.g.fast w.g.level w.g.ridged w.g.sea w.g.cold w.g.force w.g.way w.tape images c1 c2 c3 c4 c5 c6 c7 c8 c9 c10 c11 c12 c13 c14 c15 c16 c17 c18 c19 c20 c21 := by
  have v : vp_in (nI k) 3 := vp_in_nI (show k < 3 by omega) (by omega)
  have d : ¬ inI (nI k) 0 2 = 0 := by
    rw [inI_nz, show (0 : Int32) = nI 0 from rfl, show (2 : Int32) = nI 2 from rfl, nI_ltI (by omega) (by omega), nI_ltI (by omega) (by omega)]
    omega
  unfold wX10_again_s wX11_again
  simp only [p_within, p_isIn]
  rw [nI_clamp (by omega)]
  have e3 : ¬ has k = 0 := by rw [e2]; decide
  refine ip_F d ⟨v, e1, v, e1, c_copyWhole W R (fun w' A => ip_F d ⟨v, ip_F' e3 ?_⟩)⟩
  rw [nI_1, show (0 : Int32) = nI 0 from rfl]
  refine ip_copies (by omega) (by omega) (by omega) (hK w' _ ⟨W.ag A, ?_, fun i hi => cpA_out (by omega)⟩)
  refine RW.congr (all := slI all k) (R.ag W A) (W.ag A) (fun i hi => ?_)
  have q := cpA_in (all := all) (f := k + 1) (t := 0) hi
  rw [Nat.mul_zero, Nat.zero_add] at q
  exact q
theorem sim_image_no {om : Nat → Option OR} {all has : Nat → Int32} {images : Nat → Option Nat} {y1 : Int32} {b1 b2 b3 b4 b5 b6 b7 b8 b9 b10 b11 b12 : Int32} {c1 c2 c3 c4 c5 c6 c7 c8 c10 c11 c12 c13 c14 c15 c16 c17 c18 c19 c20 c21 : Nat → Int32} {c9 : Nat → Option Nat} {K : Int32 → (Nat → Option Nat) → Option (Nat × Int32 × Int32 × (Nat → Int32) × (Nat → Int32) × (Nat → Int32) × Int32 × Int32 × Int32 × Int32 × Int32 × Int32 × (Nat → Int32) × (Nat → Int32) × (Nat → Int32) × (Nat → Int32) × (Nat → Int32) × (Nat → Int32) × Int32 × (Nat → Int32) × (Nat → Int32) × (Nat → Int32) × (Nat → Int32) × (Nat → Int32) × (Nat → Int32) × (Nat → Int32) × (Nat → Option Nat) × Int32 × (Nat → Int32) × Int32 × Int32 × (Nat → Int32) × (Nat → Int32) × (Nat → Int32) × (Nat → Int32) × (Nat → Int32)) → Int32 → (Nat → Int32) → (Nat → Int32) → Prop} (c : inI y1 0 2 = 0) (hK : K 0 images none 0 all has) :
    wX10_image_n (fun r im x => wX11_image (fun r2 all' has' => K r im x r2 all' has') y1 all has) om y1 b1 b2 b3 b4 b5 b6 b7 b8 b9 b10 b11 b12 images c1 c2 c3 c4 c5 c6 c7 c8 c9 c10 c11 c12 c13 c14 c15 c16 c17 c18 c19 c20 c21 := by
  unfold wX10_image_n wX11_image
  simp only [p_within, p_isIn]
  exact ip_T' c (ip_T' c hK)
theorem im_cpA {om : Nat → Option OR} {all : Nat → Int32} {w : WH} (W : WfW w) (R : RW om all w) {k : Nat} : RW om (slI (cpA all 0 (k + 1)) k) w := by
  refine RW.congr (all := all) R W (fun i hi => ?_)
  have q := cpA_in (all := all) (f := 0) (t := k + 1) hi
  rw [Nat.mul_zero, Nat.zero_add] at q
  exact q
theorem sim_image_n {om : Nat → Option OR} {all has : Nat → Int32} {images : Nat → Option Nat} {k : Nat} {w : WH} (hk : k < 3) (e1 : images k = none) (W : WfW w) (R : RW om all w) {K : Int32 → (Nat → Option Nat) → Option (Nat × Int32 × Int32 × (Nat → Int32) × (Nat → Int32) × (Nat → Int32) × Int32 × Int32 × Int32 × Int32 × Int32 × Int32 × (Nat → Int32) × (Nat → Int32) × (Nat → Int32) × (Nat → Int32) × (Nat → Int32) × (Nat → Int32) × Int32 × (Nat → Int32) × (Nat → Int32) × (Nat → Int32) × (Nat → Int32) × (Nat → Int32) × (Nat → Int32) × (Nat → Int32) × (Nat → Option Nat) × Int32 × (Nat → Int32) × Int32 × Int32 × (Nat → Int32) × (Nat → Int32) × (Nat → Int32) × (Nat → Int32) × (Nat → Int32)) → Int32 → (Nat → Int32) → (Nat → Int32) → Prop}
    (hK : ∀ h w', WfW w' → RW om (slI (cpA all 0 (k + 1)) k) w' → K 1 (va_up images k (some h)) (some (h, w'.fault, w'.place, w'.g.cold, w'.g.way, w'.g.force, nI w'.g.hour, nI w'.g.rows, nI w'.g.cols, w'.g.laid, w'.g.grown, w'.g.melted, w'.g.sea, w'.g.fast, w'.g.level, w'.g.ridged, w'.g.chan, (fun _ => 0), nI w'.g.size, w'.g.str, w'.g.fuel, w'.g.place, w'.g.told, w'.g.moved, w'.g.line, w'.g.done, w'.g.ord, nI w'.tlen, w'.tape, nI w'.psize, nI w'.ssize, w'.frm, w'.takes, w'.worth, w'.settled, (fun _ => 0))) 1 (cpA all 0 (k + 1)) (upd has k 1)) :
    wX10_image_n (fun r im x => wX11_image (fun r2 all' has' => K r im x r2 all' has') (nI k) all has) om (nI k) w.fault w.place (nI w.psize) (nI w.ssize) (nI w.g.hour) (nI w.g.size) (nI w.g.rows) (nI w.g.cols) w.g.laid w.g.grown w.g.melted (nI w.tlen) images w.frm w.settled w.takes w.worth w.g.done w.g.fuel w.g.line w.g.moved w.g.ord w.g.place w.g.str w.g.told w.g.chan w.g.fast w.g.level w.g.ridged w.g.sea w.g.cold w.g.force w.g.way w.tape := by
  have v : vp_in (nI k) 3 := vp_in_nI (show k < 3 by omega) (by omega)
  have d : ¬ inI (nI k) 0 2 = 0 := by
    rw [inI_nz, show (0 : Int32) = nI 0 from rfl, show (2 : Int32) = nI 2 from rfl, nI_ltI (by omega) (by omega), nI_ltI (by omega) (by omega)]
    omega
  unfold wX10_image_n wX11_image
  simp only [p_within, p_isIn]
  rw [nI_clamp (by omega)]
  refine ip_F' d ⟨v, e1, fun h => ⟨v, v, show va_up images k (some h) k = some h from if_pos rfl, c_copyWhole W R (fun w' A => ip_F' d ⟨v, ?_⟩)⟩⟩
  rw [nI_1, show (0 : Int32) = nI 0 from rfl]
  exact ip_copies (by omega) (by omega) (by omega) (hK h w' (W.ag A) (im_cpA (W.ag A) (R.ag W A)))
theorem sim_image_s {om : Nat → Option OR} {all has : Nat → Int32} {images : Nat → Option Nat} {k h : Nat} {w : WH} (hk : k < 3) (e1 : images k = some h) (W : WfW w) (R : RW om all w) {b1 b2 b3 b4 b5 b6 b7 b8 b9 b10 b11 b12 : Int32} {c1 c2 c3 c4 c5 c6 c7 c8 c10 c11 c12 c13 c14 c15 c16 c17 c18 c19 c20 c21 : Nat → Int32} {c9 : Nat → Option Nat} {K : Int32 → Int32 → Int32 → Int32 → Int32 → Int32 → Int32 → Int32 → Int32 → Int32 → Int32 → Int32 → Int32 → (Nat → Int32) → (Nat → Int32) → (Nat → Int32) → (Nat → Int32) → (Nat → Int32) → (Nat → Int32) → (Nat → Int32) → (Nat → Int32) → (Nat → Option Nat) → (Nat → Int32) → (Nat → Int32) → (Nat → Int32) → (Nat → Int32) → (Nat → Int32) → (Nat → Int32) → (Nat → Int32) → (Nat → Int32) → (Nat → Int32) → (Nat → Int32) → (Nat → Int32) → (Nat → Int32) → Int32 → (Nat → Int32) → (Nat → Int32) → Prop}
    (hK : ∀ w', WfW w' → RW om (slI (cpA all 0 (k + 1)) k) w' → K 1 w'.fault w'.place (nI w'.psize) (nI w'.ssize) (nI w'.g.hour) (nI w'.g.size) (nI w'.g.rows) (nI w'.g.cols) w'.g.laid w'.g.grown w'.g.melted (nI w'.tlen) w'.frm w'.settled w'.takes w'.worth w'.g.done w'.g.fuel w'.g.line w'.g.moved w'.g.ord w'.g.place w'.g.str w'.g.told w'.g.chan w'.g.fast w'.g.level w'.g.ridged w'.g.sea w'.g.cold w'.g.force w'.g.way w'.tape 1 (cpA all 0 (k + 1)) (upd has k 1)) :
    wX10_image_s (fun r v1 v2 v3 v4 v5 v6 v7 v8 v9 v10 v11 v12 v13 v14 v15 v16 v17 v18 v19 v20 v21 v22 v23 v24 v25 v26 v27 v28 v29 v30 v31 v32 v33 => wX11_image (fun r2 all' has' => K r v1 v2 v3 v4 v5 v6 v7 v8 v9 v10 v11 v12 v13 v14 v15 v16 v17 v18 v19 v20 v21 v22 v23 v24 v25 v26 v27 v28 v29 v30 v31 v32 v33 r2 all' has') (nI k) all has) h om (nI k) b1 b2 b3 b4 b5 b6 b7 b8 b9 b10 b11 b12 w.fault w.place (nI w.psize) (nI w.ssize) (nI w.g.hour) (nI w.g.size) (nI w.g.rows) (nI w.g.cols) w.g.laid w.g.grown w.g.melted (nI w.tlen) c1 c2 c3 c4 c5 c6 c7 c8 c9 c10 c11 c12 c13 c14 c15 c16 c17 c18 c19 c20 c21 images w.frm w.settled w.takes w.worth w.g.done w.g.fuel w.g.line w.g.moved w.g.ord w.g.place w.g.str w.g.told w.g.chan w.g.fast w.g.level w.g.ridged w.g.sea w.g.cold w.g.force w.g.way w.tape := by
  have v : vp_in (nI k) 3 := vp_in_nI (show k < 3 by omega) (by omega)
  have d : ¬ inI (nI k) 0 2 = 0 := by
    rw [inI_nz, show (0 : Int32) = nI 0 from rfl, show (2 : Int32) = nI 2 from rfl, nI_ltI (by omega) (by omega), nI_ltI (by omega) (by omega)]
    omega
  unfold wX10_image_s wX11_image
  simp only [p_within, p_isIn]
  rw [nI_clamp (by omega)]
  refine ip_F' d ⟨v, e1, v, e1, c_copyWhole W R (fun w' A => ip_F' d ⟨v, ?_⟩)⟩
  rw [nI_1, show (0 : Int32) = nI 0 from rfl]
  exact ip_copies (by omega) (by omega) (by omega) (hK w' (W.ag A) (im_cpA (W.ag A) (R.ag W A)))
/-- the block of one image changes, the others and what runs do not -/
theorem ImR.set {om : Nat → Option OR} {all has : Nat → Int32} {images : Nat → Option Nat} {iw : Nat → WH} (H : ImR om all has images iw) {k h : Nat} {w : WH} (hk : k < 3) (W : WfW w) (R : RW om (slI (cpA all 0 (k + 1)) k) w) {im' : Nat → Option Nat} (h1 : im' k = some h) (h2 : ∀ j, j ≠ k → im' j = images j) : ImR om (cpA all 0 (k + 1)) (upd has k 1) im' (fun j => if j = k then w else iw j) := by
  intro j hj
  by_cases e : j = k
  · subst e
    refine Or.inr ⟨h, h1, ?_, ?_, ?_⟩
    · show upd has j 1 j = 1
      unfold upd; exact if_pos rfl
    · show WfW (if j = j then w else iw j)
      rw [if_pos rfl]; exact W
    · show RW om _ (if j = j then w else iw j)
      rw [if_pos rfl]; exact R
  · show (_ ∧ _) ∨ (∃ a, _ ∧ _ ∧ WfW (if j = k then w else iw j) ∧ RW om _ (if j = k then w else iw j))
    rw [if_neg e, h2 j e, show upd has k 1 j = has j from by unfold upd; exact if_neg e]
    rcases H j hj with q | ⟨a, f1, f2, W', R'⟩
    · exact Or.inl q
    · refine Or.inr ⟨a, f1, f2, W', RW.congr (all := slI all j) R' W' (fun i hi => ?_)⟩
      exact cpA_out (by omega)
theorem RW.cpA {om : Nat → Option OR} {all : Nat → Int32} {w : WH} (R : RW om all w) (W : WfW w) {k : Nat} : RW om (cpA all 0 (k + 1)) w := RW.congr R W (fun i hi => cpA_out (by omega))
