/-! PURE LEVEL 42: orders, both -/
theorem rd_len {n : Nat} {tk vl : Nat → Nat} (H : Ed n tk) (hv : ∀ j, vl j < 10000) (htk : ∀ j, tk j < 1000) : ∀ (f i : Nat) (ss : List Int32) (ls : List (Nat × Nat × Nat)) (sp : Option Nat), n < i + f → i ≤ n → ((sp = none ∧ ls.length ≤ 20) ∨ (¬ sp = none ∧ 20 < ls.length)) → (rdP tk vl f i ss ls sp).1 = 0 → (rdP tk vl f i ss ls sp).2.2.2.length ≤ 20 := by
  intro f
  induction f with
  | zero => intro i ss ls sp h1 h2; omega
  | succ f ih =>
    intro i ss ls sp h1 h2 hsp h
    rw [rdP_s] at h ⊢
    by_cases c : tk i = 257
    · rw [if_pos c] at h ⊢
      cases sp with
      | none =>
        rcases hsp with ⟨-, q⟩ | ⟨q, -⟩
        · exact q
        · exact absurd rfl q
      | some p => exact absurd h (by show ¬ (2 : Nat) = 0; omega)
    · rw [if_neg c] at h ⊢
      obtain ⟨p1, p2, p3⟩ := ln_pg H hv htk (i := i) h2
      by_cases e : (lnP tk vl i).1 = true
      · rw [if_pos e] at h ⊢
        obtain ⟨p4, -⟩ := p3 e
        refine ih _ _ _ _ (by omega) p2 ?_ h
        rw [List.length_append]
        show (_ ∧ ls.length + 1 ≤ 20) ∨ (_ ∧ 20 < ls.length + 1)
        rcases hsp with ⟨q1, q2⟩ | ⟨q1, q2⟩
        · by_cases z : ls.length = 20
          · rw [if_pos z]; exact Or.inr ⟨by simp, by omega⟩
          · rw [if_neg z]; exact Or.inl ⟨q1, by omega⟩
        · rw [if_neg (by omega)]; exact Or.inr ⟨q1, by omega⟩
      · rw [if_neg e] at h
        exact absurd h (by show ¬ (1 : Nat) = 0; omega)
theorem sim_orders {om : Nat → Option OR} {all ra rl : Nat → Int32} {w : WH} (W : WfW w) (R : RW om all w) {y1 : Int32} {z1 z2 z3 z4 z5 z6 : Int32} {ac en nu pl st tk vl : Nat → Int32} {sz nx wh to num sg wd wr op ln acs : Int32} {K : Int32 → Int32 → Int32 → Int32 → Int32 → Int32 → Int32 → Int32 → Int32 → Int32 → (Nat → Option Nat) → (Nat → Int32) → (Nat → Int32) → (Nat → Int32) → (Nat → Int32) → (Nat → Int32) → (Nat → Int32) → (Nat → Int32) → (Nat → Option OR) → Int32 → Int32 → Int32 → Int32 → Int32 → Int32 → Int32 → Int32 → Int32 → Int32 → Int32 → Int32 → (Nat → Int32) → (Nat → Int32) → (Nat → Int32) → Prop}
    (hK : ∀ r fault place n z1 z2 z3 z4 z5 z6 ord ac en nu pl st tk vl om' sz nx wh to num sg wd wr op ln acs ra' all' rl', (∀ a q, om a = some q → om' a = some q) → Ok om' all (((((w.g.rows, w.g.cols, w.g.size, w.g.hour, w.g.laid, w.g.grown, w.g.melted, w.g.sea, w.g.fast, w.g.level, w.g.ridged, w.g.chan, w.g.str, w.g.fuel, w.g.place, w.g.told, w.g.moved, w.g.line, w.g.done, (ord), w.g.cold, w.g.way, w.g.force) : GU)), (n), w.tape, (fault), (place), w.psize, w.frm, w.takes, w.worth, w.ssize, w.settled) : WH) all' → K r fault place (nI n) z1 z2 z3 z4 z5 z6 ord ac en nu pl st tk vl om' r sz nx wh to num sg wd wr op ln acs ra' all' rl') :
    wX10_orders (fun r f p n a1 a2 a3 a4 a5 a6 ord b1 b2 b3 b4 b5 b6 b7 om' => wX11_orders (fun r2 sz nx wh to num sg wd wr op ln acs ra' all' rl' => K r f p n a1 a2 a3 a4 a5 a6 ord b1 b2 b3 b4 b5 b6 b7 om' r2 sz nx wh to num sg wd wr op ln acs ra' all' rl') y1 sz nx wh to num sg wd wr op ln acs ra all rl) om y1 w.fault w.place (nI w.g.size) (nI w.tlen) z1 z2 z3 z4 z5 z6 w.g.ord w.tape ac en nu pl st tk vl := by
  have s8 := W.g.s8
  have hL := W.tlen
  unfold wX10_orders
  refine ip_has (by omega) (fun c => ip_T' rfl ?_) (fun s hs e => ip_F' (by decide) ?_)
  · unfold wX11_orders
    exact ip_isShip W.g R.g (fun _ => ip_T' rfl (hK _ _ _ w.tlen _ _ _ _ _ _ _ _ _ _ _ _ _ _ om _ _ _ _ _ _ _ _ _ _ _ _ _ _ (fun _ _ q => q) (Ok.same W R))) (fun s hs e => (no_ship (by omega) c hs e).elim)
  subst e
  -- the text
  have HB : BY (fun p => (w.tape p).toNatClampNeg) w.tlen w.tape := ⟨hL, fun p hp => by
    obtain ⟨x, hx, ex⟩ := W.tape p hp
    show w.tape p = nI (w.tape p).toNatClampNeg ∧ (w.tape p).toNatClampNeg < 256
    rw [ex, nI_clamp (by omega)]
    exact ⟨rfl, hx⟩⟩
  generalize hb : (fun p => (w.tape p).toNatClampNeg) = b at HB
  have HA : ∀ al : Nat → Int32, (∀ i, 10340 ≤ i → al i = all i) → BY b w.tlen (fun p => al (10340 + p)) := fun al h => ⟨hL, fun p hp => by
    have := HB.2 p hp
    show al (10340 + p) = nI (b p) ∧ b p < 256
    rw [h _ (by omega), R.tape p hp]
    exact this⟩
  have hv : ∀ j, VLo b w.tlen j < 10000 := fun j => by
    have := nuF_small (b := b) (dgE b w.tlen (skP b w.tlen (NO b w.tlen j)) - skP b w.tlen (NO b w.tlen j)) (skP b w.tlen (NO b w.tlen j)) 0 (by omega)
    have e4 : (10 : Nat) ^ 4 = 10000 := by decide
    show nuF b _ _ 0 < 10000
    omega
  have htk : ∀ j, TKo b w.tlen j < 1000 := fun j => by
    rcases tk_kind (b := b) (L := w.tlen) (p := NO b w.tlen j) with ⟨q, -⟩ | ⟨-, q⟩
    · have : TKo b w.tlen j = 257 := q
      omega
    · have q' : TKo b w.tlen j < 20 ∨ TKo b w.tlen j = 256 ∨ TKo b w.tlen j = 258 ∨ isSgn (TKo b w.tlen j) := q
      omega
  unfold wX5_read
  refine c_scan HB (fun n tk' pl' vl' hn he hne Rw => ⟨403, ?_⟩)
  have En : Ed n (TKo b w.tlen) := ⟨hn, he, hne⟩
  have t1 : ∀ j, j ≤ n → tk' j = nI (TKo b w.tlen j) ∧ TKo b w.tlen j < 1000 := fun j hj => ⟨(Rw j (by omega)).1, htk j⟩
  have t2 : ∀ j, j ≤ n → pl' j = nI (PLo b w.tlen j) := fun j hj => (Rw j (by omega)).2.1
  have t3 : ∀ j, j ≤ n → TKo b w.tlen j = 256 → vl' j = nI (VLo b w.tlen j) := fun j hj => (Rw j (by omega)).2.2
  generalize hal : upd (upd (upd all 9 0) 10 0) 11 (-1) = al
  have alx : ∀ i, 12 ≤ i → al i = all i := fun i hi => by rw [← hal, pk_un (by omega), pk_un (by omega), pk_un (by omega)]
  have al10 : al 10 = 0 := by rw [← hal, pk_un (by omega), pk_us]
  have HAl := HA al (fun i hi => alx i (by omega))
  -- the reference, for any outcome of the class
  have ref : ∀ (Q : Int32 → Int32 → Int32 → Int32 → Int32 → Int32 → Int32 → Int32 → Int32 → Int32 → Int32 → Int32 → (Nat → Int32) → (Nat → Int32) → (Nat → Int32) → Prop), ((rdP (TKo b w.tlen) (VLo b w.tlen) 402 0 [] [] none).1 = 0 → (rdP (TKo b w.tlen) (VLo b w.tlen) 402 0 [] [] none).2.2.2.length ≤ 20 → (rdP (TKo b w.tlen) (VLo b w.tlen) 402 0 [] [] none).2.2.1.length ≤ 200 → LsOk (rdP (TKo b w.tlen) (VLo b w.tlen) 402 0 [] [] none).2.2.1 (rdP (TKo b w.tlen) (VLo b w.tlen) 402 0 [] [] none).2.2.2 → ∀ nx wh to nu sg wd op ra rl, AcS (rdP (TKo b w.tlen) (VLo b w.tlen) 402 0 [] [] none).2.2.1 ra → LnM (rdP (TKo b w.tlen) (VLo b w.tlen) 402 0 [] [] none).2.2.2 rl → Q (nI (rdP (TKo b w.tlen) (VLo b w.tlen) 402 0 [] [] none).2.2.2.length) (nI w.tlen) nx wh to nu sg wd 0 op (nI (rdP (TKo b w.tlen) (VLo b w.tlen) 402 0 [] [] none).2.2.2.length) (nI (rdP (TKo b w.tlen) (VLo b w.tlen) 402 0 [] [] none).2.2.1.length) ra (keA al rl ra s (rdP (TKo b w.tlen) (VLo b w.tlen) 402 0 [] [] none).2.2.2.length) rl) → ((rdP (TKo b w.tlen) (VLo b w.tlen) 402 0 [] [] none).1 = 1 → ∀ nx wh to nu sg wd op ln ac ra al' rl, FP al al' 1 (nI (PLo b w.tlen (rdP (TKo b w.tlen) (VLo b w.tlen) 402 0 [] [] none).2.1)) → Q (-1) (nI w.tlen) nx wh to nu sg wd 1 op ln ac ra al' rl) → ((rdP (TKo b w.tlen) (VLo b w.tlen) 402 0 [] [] none).1 = 2 → ∀ nx wh to nu sg wd op ln ac ra al' rl, FP al al' 2 (nI (PLo b w.tlen (rdP (TKo b w.tlen) (VLo b w.tlen) 402 0 [] [] none).2.1)) → Q (-1) (nI w.tlen) nx wh to nu sg wd 0 op ln ac ra al' rl) → wX11_orders Q (nI s) sz nx wh to num sg wd wr op ln acs ra all rl := by
    intro Q h0 h1 h2
    unfold wX11_orders
    refine ip_isShip W.g R.g (fun c => (no_ship (by omega) c hs rfl).elim) (fun _ _ _ => ip_F' (by decide) ⟨ip_in 9 _ rfl (by omega) (by omega), ip_in 9 _ rfl (by omega) (by omega), ip_in 10 _ rfl (by omega) (by omega), ip_in 11 _ rfl (by omega) (by omega), ?_⟩)
    rw [show (9 : Int32).toNatClampNeg = 9 from rfl, show (10 : Int32).toNatClampNeg = 10 from rfl, show (11 : Int32).toNatClampNeg = 11 from rfl, R.tlen, hal]
    refine m_advance (p := 0) HAl (Nat.zero_le _) (fun to' nu' sg' wd' q => ⟨403, ?_⟩)
    have key := m_read_loop (s := s) (by omega) HAl En hv htk al10 h0 h1 h2 402 0 [] [] none ra rl (nI (nxO b w.tlen 0)) (nI (skP b w.tlen 0)) to' nu' sg' wd' op (by omega) (by omega) (Nat.le_refl _) (Nat.zero_le _) ⟨rfl, rfl, q⟩ (fun k hk => absurd hk (Nat.not_lt_zero k)) (fun k hk => absurd hk (Nat.not_lt_zero k)) ⟨fun k hk => absurd hk (Nat.not_lt_zero k), rfl⟩ (Or.inl ⟨rfl, Nat.zero_le _⟩) rfl
    exact key
  refine c_read_loop (X := rdP (TKo b w.tlen) (VLo b w.tlen) 402 0 [] [] none) hL En t1 t2 t3 hv htk (fun at' ac' en' nu' st' x0 xl S LC => ip_T rfl ?_) (fun at' sn ln' ac' en' nu' st' x1 => ip_F (by decide) ?_) (fun at' sn ln' ac' en' nu' st' x2 => ip_F (by decide) ?_) 402 0 0 [] [] none ac en nu st (by omega) (by omega) (Nat.le_refl _) (Nat.le_refl _) (Nat.le_refl _) ⟨fun _ _ => rfl, fun k hk => absurd hk (Nat.not_lt_zero k)⟩ (fun k hk => absurd hk (Nat.not_lt_zero k)) rfl
  · -- no fault
    have l20 := rd_len En hv htk 402 0 [] [] none (by omega) (by omega) (Or.inl ⟨rfl, Nat.zero_le _⟩) x0
    refine ⟨_, _, rfl, rfl, xl, l20, fun oa g1 g2 g3 g4 hom e1 e2 e3 e4 => ⟨vp_in_nI (by omega) (by omega), ?_⟩⟩
    rw [nI_clamp (by omega)]
    refine ref _ (fun _ hl1 hl2 LO nx' wh' to' nu' sg' wd' op' ra' rl' A LM => ?_) (fun q => absurd (x0.symm.trans q) (by omega)) (fun q => absurd (x0.symm.trans q) (by omega))
    have T := tx_of hl2 hl1 LO S LC A LM e1 e2 e3 e4
    refine hK _ _ _ 0 _ _ _ _ _ _ _ _ _ _ _ _ _ _ _ _ _ _ _ _ _ _ _ _ _ _ _ _ _ (fun a q eq => ?_) (keA_ok W R hs hal.symm hom rfl rfl T)
    show (if a = oa then _ else om a) = some q
    rw [if_neg (fun z => by rw [z, hom] at eq; exact absurd eq (by simp))]
    exact eq
  · refine ref _ (fun q => absurd (x1.symm.trans q) (by omega)) (fun _ nx' wh' to' nu' sg' wd' op' ln'' ac'' ra' al' rl' F => ?_) (fun q => absurd (x1.symm.trans q) (by omega))
    exact hK _ _ _ 0 _ _ _ _ _ _ _ _ _ _ _ _ _ _ om _ _ _ _ _ _ _ _ _ _ _ _ _ _ (fun _ _ q => q) (FP.rw' W R hal.symm F)
  · refine ref _ (fun q => absurd (x2.symm.trans q) (by omega)) (fun q => absurd (x2.symm.trans q) (by omega)) (fun _ nx' wh' to' nu' sg' wd' op' ln'' ac'' ra' al' rl' F => ?_)
    exact hK _ _ _ 0 _ _ _ _ _ _ _ _ _ _ _ _ _ _ om _ _ _ _ _ _ _ _ _ _ _ _ _ _ (fun _ _ q => q) (FP.rw' W R hal.symm F)
