theorem Rg.setSea {om : Nat → Option OR} {all : Nat → Int32} {g : GU} (R : Rg om all g) (k : Nat) (v : Int32) (hk : k < 64) : Rg om (upd all (40 + 5 * k) v) { g with sea := upd g.sea k v } where
  rows := (pk_un (by omega)).trans R.rows
  cols := (pk_un (by omega)).trans R.cols
  size := (pk_un (by omega)).trans R.size
  hour := (pk_un (by omega)).trans R.hour
  laid := (pk_un (by omega)).trans R.laid
  grown := (pk_un (by omega)).trans R.grown
  melted := (pk_un (by omega)).trans R.melted
  sea := fun j hj hi => by
    by_cases e : j = k
    · subst e; exact pk_us.trans pk_us.symm
    · exact (pk_un (by omega)).trans ((R.sea j hj hi).trans (pk_un e).symm)
  level := fun j hj => (pk_un (by omega)).trans (R.level j hj)
  ridged := fun j hj => (pk_un (by omega)).trans (R.ridged j hj)
  chan := fun j hj => (pk_un (by omega)).trans (R.chan j hj)
  fast := fun j hj hi => (pk_un (by omega)).trans (R.fast j hj hi)
  str := fun j hj => (pk_un (by omega)).trans (R.str j hj)
  fuel := fun j hj => (pk_un (by omega)).trans (R.fuel j hj)
  prow := fun j hj => (pk_un (by omega)).trans (R.prow j hj)
  pcol := fun j hj => (pk_un (by omega)).trans (R.pcol j hj)
  told := fun j hj => (pk_un (by omega)).trans (R.told j hj)
  moved := fun j hj => (pk_un (by omega)).trans (R.moved j hj)
  line := fun j hj => (pk_un (by omega)).trans (R.line j hj)
  done := fun j hj => (pk_un (by omega)).trans (R.done j hj)
  ord := fun j hj => by rw [pk_un (by omega), show (fun i => upd all (40 + 5 * k) v (3460 + 80 * j + i)) = fun i => all (3460 + 80 * j + i) from funext fun i => pk_un (by omega), show (fun i => upd all (40 + 5 * k) v (4100 + 780 * j + i)) = fun i => all (4100 + 780 * j + i) from funext fun i => pk_un (by omega)]; exact R.ord j hj
  cold := fun j hj => (pk_un (by omega)).trans (R.cold j hj)
  way := fun j hj => (pk_un (by omega)).trans (R.way j hj)
  force := fun j hj => (pk_un (by omega)).trans (R.force j hj)

theorem Rg.setLevel {om : Nat → Option OR} {all : Nat → Int32} {g : GU} (R : Rg om all g) (k : Nat) (v : Int32) (hk : k < 64) : Rg om (upd all (40 + 5 * k + 1) v) { g with level := upd g.level k v } where
  rows := (pk_un (by omega)).trans R.rows
  cols := (pk_un (by omega)).trans R.cols
  size := (pk_un (by omega)).trans R.size
  hour := (pk_un (by omega)).trans R.hour
  laid := (pk_un (by omega)).trans R.laid
  grown := (pk_un (by omega)).trans R.grown
  melted := (pk_un (by omega)).trans R.melted
  sea := fun j hj hi => (pk_un (by omega)).trans (R.sea j hj hi)
  level := fun j hj => by
    by_cases e : j = k
    · subst e; exact pk_us.trans pk_us.symm
    · exact (pk_un (by omega)).trans ((R.level j hj).trans (pk_un e).symm)
  ridged := fun j hj => (pk_un (by omega)).trans (R.ridged j hj)
  chan := fun j hj => (pk_un (by omega)).trans (R.chan j hj)
  fast := fun j hj hi => (pk_un (by omega)).trans (R.fast j hj hi)
  str := fun j hj => (pk_un (by omega)).trans (R.str j hj)
  fuel := fun j hj => (pk_un (by omega)).trans (R.fuel j hj)
  prow := fun j hj => (pk_un (by omega)).trans (R.prow j hj)
  pcol := fun j hj => (pk_un (by omega)).trans (R.pcol j hj)
  told := fun j hj => (pk_un (by omega)).trans (R.told j hj)
  moved := fun j hj => (pk_un (by omega)).trans (R.moved j hj)
  line := fun j hj => (pk_un (by omega)).trans (R.line j hj)
  done := fun j hj => (pk_un (by omega)).trans (R.done j hj)
  ord := fun j hj => by rw [pk_un (by omega), show (fun i => upd all (40 + 5 * k + 1) v (3460 + 80 * j + i)) = fun i => all (3460 + 80 * j + i) from funext fun i => pk_un (by omega), show (fun i => upd all (40 + 5 * k + 1) v (4100 + 780 * j + i)) = fun i => all (4100 + 780 * j + i) from funext fun i => pk_un (by omega)]; exact R.ord j hj
  cold := fun j hj => (pk_un (by omega)).trans (R.cold j hj)
  way := fun j hj => (pk_un (by omega)).trans (R.way j hj)
  force := fun j hj => (pk_un (by omega)).trans (R.force j hj)

theorem Rg.setRidged {om : Nat → Option OR} {all : Nat → Int32} {g : GU} (R : Rg om all g) (k : Nat) (v : Int32) (hk : k < 64) : Rg om (upd all (40 + 5 * k + 2) v) { g with ridged := upd g.ridged k v } where
  rows := (pk_un (by omega)).trans R.rows
  cols := (pk_un (by omega)).trans R.cols
  size := (pk_un (by omega)).trans R.size
  hour := (pk_un (by omega)).trans R.hour
  laid := (pk_un (by omega)).trans R.laid
  grown := (pk_un (by omega)).trans R.grown
  melted := (pk_un (by omega)).trans R.melted
  sea := fun j hj hi => (pk_un (by omega)).trans (R.sea j hj hi)
  level := fun j hj => (pk_un (by omega)).trans (R.level j hj)
  ridged := fun j hj => by
    by_cases e : j = k
    · subst e; exact pk_us.trans pk_us.symm
    · exact (pk_un (by omega)).trans ((R.ridged j hj).trans (pk_un e).symm)
  chan := fun j hj => (pk_un (by omega)).trans (R.chan j hj)
  fast := fun j hj hi => (pk_un (by omega)).trans (R.fast j hj hi)
  str := fun j hj => (pk_un (by omega)).trans (R.str j hj)
  fuel := fun j hj => (pk_un (by omega)).trans (R.fuel j hj)
  prow := fun j hj => (pk_un (by omega)).trans (R.prow j hj)
  pcol := fun j hj => (pk_un (by omega)).trans (R.pcol j hj)
  told := fun j hj => (pk_un (by omega)).trans (R.told j hj)
  moved := fun j hj => (pk_un (by omega)).trans (R.moved j hj)
  line := fun j hj => (pk_un (by omega)).trans (R.line j hj)
  done := fun j hj => (pk_un (by omega)).trans (R.done j hj)
  ord := fun j hj => by rw [pk_un (by omega), show (fun i => upd all (40 + 5 * k + 2) v (3460 + 80 * j + i)) = fun i => all (3460 + 80 * j + i) from funext fun i => pk_un (by omega), show (fun i => upd all (40 + 5 * k + 2) v (4100 + 780 * j + i)) = fun i => all (4100 + 780 * j + i) from funext fun i => pk_un (by omega)]; exact R.ord j hj
  cold := fun j hj => (pk_un (by omega)).trans (R.cold j hj)
  way := fun j hj => (pk_un (by omega)).trans (R.way j hj)
  force := fun j hj => (pk_un (by omega)).trans (R.force j hj)

theorem Rg.setChan {om : Nat → Option OR} {all : Nat → Int32} {g : GU} (R : Rg om all g) (k : Nat) (v : Int32) (hk : k < 64) : Rg om (upd all (40 + 5 * k + 3) v) { g with chan := upd g.chan k v } where
  rows := (pk_un (by omega)).trans R.rows
  cols := (pk_un (by omega)).trans R.cols
  size := (pk_un (by omega)).trans R.size
  hour := (pk_un (by omega)).trans R.hour
  laid := (pk_un (by omega)).trans R.laid
  grown := (pk_un (by omega)).trans R.grown
  melted := (pk_un (by omega)).trans R.melted
  sea := fun j hj hi => (pk_un (by omega)).trans (R.sea j hj hi)
  level := fun j hj => (pk_un (by omega)).trans (R.level j hj)
  ridged := fun j hj => (pk_un (by omega)).trans (R.ridged j hj)
  chan := fun j hj => by
    by_cases e : j = k
    · subst e; exact pk_us.trans pk_us.symm
    · exact (pk_un (by omega)).trans ((R.chan j hj).trans (pk_un e).symm)
  fast := fun j hj hi => (pk_un (by omega)).trans (R.fast j hj hi)
  str := fun j hj => (pk_un (by omega)).trans (R.str j hj)
  fuel := fun j hj => (pk_un (by omega)).trans (R.fuel j hj)
  prow := fun j hj => (pk_un (by omega)).trans (R.prow j hj)
  pcol := fun j hj => (pk_un (by omega)).trans (R.pcol j hj)
  told := fun j hj => (pk_un (by omega)).trans (R.told j hj)
  moved := fun j hj => (pk_un (by omega)).trans (R.moved j hj)
  line := fun j hj => (pk_un (by omega)).trans (R.line j hj)
  done := fun j hj => (pk_un (by omega)).trans (R.done j hj)
  ord := fun j hj => by rw [pk_un (by omega), show (fun i => upd all (40 + 5 * k + 3) v (3460 + 80 * j + i)) = fun i => all (3460 + 80 * j + i) from funext fun i => pk_un (by omega), show (fun i => upd all (40 + 5 * k + 3) v (4100 + 780 * j + i)) = fun i => all (4100 + 780 * j + i) from funext fun i => pk_un (by omega)]; exact R.ord j hj
  cold := fun j hj => (pk_un (by omega)).trans (R.cold j hj)
  way := fun j hj => (pk_un (by omega)).trans (R.way j hj)
  force := fun j hj => (pk_un (by omega)).trans (R.force j hj)

theorem Rg.setFast {om : Nat → Option OR} {all : Nat → Int32} {g : GU} (R : Rg om all g) (k : Nat) (v : Int32) (hk : k < 64) : Rg om (upd all (40 + 5 * k + 4) v) { g with fast := upd g.fast k v } where
  rows := (pk_un (by omega)).trans R.rows
  cols := (pk_un (by omega)).trans R.cols
  size := (pk_un (by omega)).trans R.size
  hour := (pk_un (by omega)).trans R.hour
  laid := (pk_un (by omega)).trans R.laid
  grown := (pk_un (by omega)).trans R.grown
  melted := (pk_un (by omega)).trans R.melted
  sea := fun j hj hi => (pk_un (by omega)).trans (R.sea j hj hi)
  level := fun j hj => (pk_un (by omega)).trans (R.level j hj)
  ridged := fun j hj => (pk_un (by omega)).trans (R.ridged j hj)
  chan := fun j hj => (pk_un (by omega)).trans (R.chan j hj)
  fast := fun j hj hi => by
    by_cases e : j = k
    · subst e; exact pk_us.trans pk_us.symm
    · exact (pk_un (by omega)).trans ((R.fast j hj hi).trans (pk_un e).symm)
  str := fun j hj => (pk_un (by omega)).trans (R.str j hj)
  fuel := fun j hj => (pk_un (by omega)).trans (R.fuel j hj)
  prow := fun j hj => (pk_un (by omega)).trans (R.prow j hj)
  pcol := fun j hj => (pk_un (by omega)).trans (R.pcol j hj)
  told := fun j hj => (pk_un (by omega)).trans (R.told j hj)
  moved := fun j hj => (pk_un (by omega)).trans (R.moved j hj)
  line := fun j hj => (pk_un (by omega)).trans (R.line j hj)
  done := fun j hj => (pk_un (by omega)).trans (R.done j hj)
  ord := fun j hj => by rw [pk_un (by omega), show (fun i => upd all (40 + 5 * k + 4) v (3460 + 80 * j + i)) = fun i => all (3460 + 80 * j + i) from funext fun i => pk_un (by omega), show (fun i => upd all (40 + 5 * k + 4) v (4100 + 780 * j + i)) = fun i => all (4100 + 780 * j + i) from funext fun i => pk_un (by omega)]; exact R.ord j hj
  cold := fun j hj => (pk_un (by omega)).trans (R.cold j hj)
  way := fun j hj => (pk_un (by omega)).trans (R.way j hj)
  force := fun j hj => (pk_un (by omega)).trans (R.force j hj)

theorem Rg.setStr {om : Nat → Option OR} {all : Nat → Int32} {g : GU} (R : Rg om all g) (k : Nat) (v : Int32) (hs : g.size ≤ 8) (hk : k < 8) : Rg om (upd all (360 + 12 * k) v) { g with str := upd g.str k v } where
  rows := (pk_un (by omega)).trans R.rows
  cols := (pk_un (by omega)).trans R.cols
  size := (pk_un (by omega)).trans R.size
  hour := (pk_un (by omega)).trans R.hour
  laid := (pk_un (by omega)).trans R.laid
  grown := (pk_un (by omega)).trans R.grown
  melted := (pk_un (by omega)).trans R.melted
  sea := fun j hj hi => (pk_un (by omega)).trans (R.sea j hj hi)
  level := fun j hj => (pk_un (by omega)).trans (R.level j hj)
  ridged := fun j hj => (pk_un (by omega)).trans (R.ridged j hj)
  chan := fun j hj => (pk_un (by omega)).trans (R.chan j hj)
  fast := fun j hj hi => (pk_un (by omega)).trans (R.fast j hj hi)
  str := fun j hj => by
    by_cases e : j = k
    · subst e; exact pk_us.trans pk_us.symm
    · exact (pk_un (by omega)).trans ((R.str j hj).trans (pk_un e).symm)
  fuel := fun j hj => (pk_un (by omega)).trans (R.fuel j hj)
  prow := fun j hj => (pk_un (by omega)).trans (R.prow j hj)
  pcol := fun j hj => (pk_un (by omega)).trans (R.pcol j hj)
  told := fun j hj => (pk_un (by omega)).trans (R.told j hj)
  moved := fun j hj => (pk_un (by omega)).trans (R.moved j hj)
  line := fun j hj => (pk_un (by omega)).trans (R.line j hj)
  done := fun j hj => (pk_un (by omega)).trans (R.done j hj)
  ord := fun j hj => by rw [pk_un (by omega), show (fun i => upd all (360 + 12 * k) v (3460 + 80 * j + i)) = fun i => all (3460 + 80 * j + i) from funext fun i => pk_un (by omega), show (fun i => upd all (360 + 12 * k) v (4100 + 780 * j + i)) = fun i => all (4100 + 780 * j + i) from funext fun i => pk_un (by omega)]; exact R.ord j hj
  cold := fun j hj => (pk_un (by omega)).trans (R.cold j hj)
  way := fun j hj => (pk_un (by omega)).trans (R.way j hj)
  force := fun j hj => (pk_un (by omega)).trans (R.force j hj)

theorem Rg.setFuel {om : Nat → Option OR} {all : Nat → Int32} {g : GU} (R : Rg om all g) (k : Nat) (v : Int32) (hs : g.size ≤ 8) (hk : k < 8) : Rg om (upd all (360 + 12 * k + 1) v) { g with fuel := upd g.fuel k v } where
  rows := (pk_un (by omega)).trans R.rows
  cols := (pk_un (by omega)).trans R.cols
  size := (pk_un (by omega)).trans R.size
  hour := (pk_un (by omega)).trans R.hour
  laid := (pk_un (by omega)).trans R.laid
  grown := (pk_un (by omega)).trans R.grown
  melted := (pk_un (by omega)).trans R.melted
  sea := fun j hj hi => (pk_un (by omega)).trans (R.sea j hj hi)
  level := fun j hj => (pk_un (by omega)).trans (R.level j hj)
  ridged := fun j hj => (pk_un (by omega)).trans (R.ridged j hj)
  chan := fun j hj => (pk_un (by omega)).trans (R.chan j hj)
  fast := fun j hj hi => (pk_un (by omega)).trans (R.fast j hj hi)
  str := fun j hj => (pk_un (by omega)).trans (R.str j hj)
  fuel := fun j hj => by
    by_cases e : j = k
    · subst e; exact pk_us.trans pk_us.symm
    · exact (pk_un (by omega)).trans ((R.fuel j hj).trans (pk_un e).symm)
  prow := fun j hj => (pk_un (by omega)).trans (R.prow j hj)
  pcol := fun j hj => (pk_un (by omega)).trans (R.pcol j hj)
  told := fun j hj => (pk_un (by omega)).trans (R.told j hj)
  moved := fun j hj => (pk_un (by omega)).trans (R.moved j hj)
  line := fun j hj => (pk_un (by omega)).trans (R.line j hj)
  done := fun j hj => (pk_un (by omega)).trans (R.done j hj)
  ord := fun j hj => by rw [pk_un (by omega), show (fun i => upd all (360 + 12 * k + 1) v (3460 + 80 * j + i)) = fun i => all (3460 + 80 * j + i) from funext fun i => pk_un (by omega), show (fun i => upd all (360 + 12 * k + 1) v (4100 + 780 * j + i)) = fun i => all (4100 + 780 * j + i) from funext fun i => pk_un (by omega)]; exact R.ord j hj
  cold := fun j hj => (pk_un (by omega)).trans (R.cold j hj)
  way := fun j hj => (pk_un (by omega)).trans (R.way j hj)
  force := fun j hj => (pk_un (by omega)).trans (R.force j hj)

theorem Rg.setTold {om : Nat → Option OR} {all : Nat → Int32} {g : GU} (R : Rg om all g) (k : Nat) (v : Int32) (hs : g.size ≤ 8) (hk : k < 8) : Rg om (upd all (360 + 12 * k + 4) v) { g with told := upd g.told k v } where
  rows := (pk_un (by omega)).trans R.rows
  cols := (pk_un (by omega)).trans R.cols
  size := (pk_un (by omega)).trans R.size
  hour := (pk_un (by omega)).trans R.hour
  laid := (pk_un (by omega)).trans R.laid
  grown := (pk_un (by omega)).trans R.grown
  melted := (pk_un (by omega)).trans R.melted
  sea := fun j hj hi => (pk_un (by omega)).trans (R.sea j hj hi)
  level := fun j hj => (pk_un (by omega)).trans (R.level j hj)
  ridged := fun j hj => (pk_un (by omega)).trans (R.ridged j hj)
  chan := fun j hj => (pk_un (by omega)).trans (R.chan j hj)
  fast := fun j hj hi => (pk_un (by omega)).trans (R.fast j hj hi)
  str := fun j hj => (pk_un (by omega)).trans (R.str j hj)
  fuel := fun j hj => (pk_un (by omega)).trans (R.fuel j hj)
  prow := fun j hj => (pk_un (by omega)).trans (R.prow j hj)
  pcol := fun j hj => (pk_un (by omega)).trans (R.pcol j hj)
  told := fun j hj => by
    by_cases e : j = k
    · subst e; exact pk_us.trans pk_us.symm
    · exact (pk_un (by omega)).trans ((R.told j hj).trans (pk_un e).symm)
  moved := fun j hj => (pk_un (by omega)).trans (R.moved j hj)
  line := fun j hj => (pk_un (by omega)).trans (R.line j hj)
  done := fun j hj => (pk_un (by omega)).trans (R.done j hj)
  ord := fun j hj => by rw [pk_un (by omega), show (fun i => upd all (360 + 12 * k + 4) v (3460 + 80 * j + i)) = fun i => all (3460 + 80 * j + i) from funext fun i => pk_un (by omega), show (fun i => upd all (360 + 12 * k + 4) v (4100 + 780 * j + i)) = fun i => all (4100 + 780 * j + i) from funext fun i => pk_un (by omega)]; exact R.ord j hj
  cold := fun j hj => (pk_un (by omega)).trans (R.cold j hj)
  way := fun j hj => (pk_un (by omega)).trans (R.way j hj)
  force := fun j hj => (pk_un (by omega)).trans (R.force j hj)

theorem Rg.setMoved {om : Nat → Option OR} {all : Nat → Int32} {g : GU} (R : Rg om all g) (k : Nat) (v : Int32) (hs : g.size ≤ 8) (hk : k < 8) : Rg om (upd all (360 + 12 * k + 5) v) { g with moved := upd g.moved k v } where
  rows := (pk_un (by omega)).trans R.rows
  cols := (pk_un (by omega)).trans R.cols
  size := (pk_un (by omega)).trans R.size
  hour := (pk_un (by omega)).trans R.hour
  laid := (pk_un (by omega)).trans R.laid
  grown := (pk_un (by omega)).trans R.grown
  melted := (pk_un (by omega)).trans R.melted
  sea := fun j hj hi => (pk_un (by omega)).trans (R.sea j hj hi)
  level := fun j hj => (pk_un (by omega)).trans (R.level j hj)
  ridged := fun j hj => (pk_un (by omega)).trans (R.ridged j hj)
  chan := fun j hj => (pk_un (by omega)).trans (R.chan j hj)
  fast := fun j hj hi => (pk_un (by omega)).trans (R.fast j hj hi)
  str := fun j hj => (pk_un (by omega)).trans (R.str j hj)
  fuel := fun j hj => (pk_un (by omega)).trans (R.fuel j hj)
  prow := fun j hj => (pk_un (by omega)).trans (R.prow j hj)
  pcol := fun j hj => (pk_un (by omega)).trans (R.pcol j hj)
  told := fun j hj => (pk_un (by omega)).trans (R.told j hj)
  moved := fun j hj => by
    by_cases e : j = k
    · subst e; exact pk_us.trans pk_us.symm
    · exact (pk_un (by omega)).trans ((R.moved j hj).trans (pk_un e).symm)
  line := fun j hj => (pk_un (by omega)).trans (R.line j hj)
  done := fun j hj => (pk_un (by omega)).trans (R.done j hj)
  ord := fun j hj => by rw [pk_un (by omega), show (fun i => upd all (360 + 12 * k + 5) v (3460 + 80 * j + i)) = fun i => all (3460 + 80 * j + i) from funext fun i => pk_un (by omega), show (fun i => upd all (360 + 12 * k + 5) v (4100 + 780 * j + i)) = fun i => all (4100 + 780 * j + i) from funext fun i => pk_un (by omega)]; exact R.ord j hj
  cold := fun j hj => (pk_un (by omega)).trans (R.cold j hj)
  way := fun j hj => (pk_un (by omega)).trans (R.way j hj)
  force := fun j hj => (pk_un (by omega)).trans (R.force j hj)

theorem Rg.setLine {om : Nat → Option OR} {all : Nat → Int32} {g : GU} (R : Rg om all g) (k : Nat) (v : Int32) (hs : g.size ≤ 8) (hk : k < 8) : Rg om (upd all (360 + 12 * k + 6) v) { g with line := upd g.line k v } where
  rows := (pk_un (by omega)).trans R.rows
  cols := (pk_un (by omega)).trans R.cols
  size := (pk_un (by omega)).trans R.size
  hour := (pk_un (by omega)).trans R.hour
  laid := (pk_un (by omega)).trans R.laid
  grown := (pk_un (by omega)).trans R.grown
  melted := (pk_un (by omega)).trans R.melted
  sea := fun j hj hi => (pk_un (by omega)).trans (R.sea j hj hi)
  level := fun j hj => (pk_un (by omega)).trans (R.level j hj)
  ridged := fun j hj => (pk_un (by omega)).trans (R.ridged j hj)
  chan := fun j hj => (pk_un (by omega)).trans (R.chan j hj)
  fast := fun j hj hi => (pk_un (by omega)).trans (R.fast j hj hi)
  str := fun j hj => (pk_un (by omega)).trans (R.str j hj)
  fuel := fun j hj => (pk_un (by omega)).trans (R.fuel j hj)
  prow := fun j hj => (pk_un (by omega)).trans (R.prow j hj)
  pcol := fun j hj => (pk_un (by omega)).trans (R.pcol j hj)
  told := fun j hj => (pk_un (by omega)).trans (R.told j hj)
  moved := fun j hj => (pk_un (by omega)).trans (R.moved j hj)
  line := fun j hj => by
    by_cases e : j = k
    · subst e; exact pk_us.trans pk_us.symm
    · exact (pk_un (by omega)).trans ((R.line j hj).trans (pk_un e).symm)
  done := fun j hj => (pk_un (by omega)).trans (R.done j hj)
  ord := fun j hj => by rw [pk_un (by omega), show (fun i => upd all (360 + 12 * k + 6) v (3460 + 80 * j + i)) = fun i => all (3460 + 80 * j + i) from funext fun i => pk_un (by omega), show (fun i => upd all (360 + 12 * k + 6) v (4100 + 780 * j + i)) = fun i => all (4100 + 780 * j + i) from funext fun i => pk_un (by omega)]; exact R.ord j hj
  cold := fun j hj => (pk_un (by omega)).trans (R.cold j hj)
  way := fun j hj => (pk_un (by omega)).trans (R.way j hj)
  force := fun j hj => (pk_un (by omega)).trans (R.force j hj)

theorem Rg.setDone {om : Nat → Option OR} {all : Nat → Int32} {g : GU} (R : Rg om all g) (k : Nat) (v : Int32) (hs : g.size ≤ 8) (hk : k < 8) : Rg om (upd all (360 + 12 * k + 7) v) { g with done := upd g.done k v } where
  rows := (pk_un (by omega)).trans R.rows
  cols := (pk_un (by omega)).trans R.cols
  size := (pk_un (by omega)).trans R.size
  hour := (pk_un (by omega)).trans R.hour
  laid := (pk_un (by omega)).trans R.laid
  grown := (pk_un (by omega)).trans R.grown
  melted := (pk_un (by omega)).trans R.melted
  sea := fun j hj hi => (pk_un (by omega)).trans (R.sea j hj hi)
  level := fun j hj => (pk_un (by omega)).trans (R.level j hj)
  ridged := fun j hj => (pk_un (by omega)).trans (R.ridged j hj)
  chan := fun j hj => (pk_un (by omega)).trans (R.chan j hj)
  fast := fun j hj hi => (pk_un (by omega)).trans (R.fast j hj hi)
  str := fun j hj => (pk_un (by omega)).trans (R.str j hj)
  fuel := fun j hj => (pk_un (by omega)).trans (R.fuel j hj)
  prow := fun j hj => (pk_un (by omega)).trans (R.prow j hj)
  pcol := fun j hj => (pk_un (by omega)).trans (R.pcol j hj)
  told := fun j hj => (pk_un (by omega)).trans (R.told j hj)
  moved := fun j hj => (pk_un (by omega)).trans (R.moved j hj)
  line := fun j hj => (pk_un (by omega)).trans (R.line j hj)
  done := fun j hj => by
    by_cases e : j = k
    · subst e; exact pk_us.trans pk_us.symm
    · exact (pk_un (by omega)).trans ((R.done j hj).trans (pk_un e).symm)
  ord := fun j hj => by rw [pk_un (by omega), show (fun i => upd all (360 + 12 * k + 7) v (3460 + 80 * j + i)) = fun i => all (3460 + 80 * j + i) from funext fun i => pk_un (by omega), show (fun i => upd all (360 + 12 * k + 7) v (4100 + 780 * j + i)) = fun i => all (4100 + 780 * j + i) from funext fun i => pk_un (by omega)]; exact R.ord j hj
  cold := fun j hj => (pk_un (by omega)).trans (R.cold j hj)
  way := fun j hj => (pk_un (by omega)).trans (R.way j hj)
  force := fun j hj => (pk_un (by omega)).trans (R.force j hj)

theorem Rg.setLaid {om : Nat → Option OR} {all : Nat → Int32} {g : GU} (R : Rg om all g) (v : Int32) (hs : g.size ≤ 8) : Rg om (upd all (4) v) { g with laid := v } where
  rows := (pk_un (by omega)).trans R.rows
  cols := (pk_un (by omega)).trans R.cols
  size := (pk_un (by omega)).trans R.size
  hour := (pk_un (by omega)).trans R.hour
  laid := pk_us
  grown := (pk_un (by omega)).trans R.grown
  melted := (pk_un (by omega)).trans R.melted
  sea := fun j hj hi => (pk_un (by omega)).trans (R.sea j hj hi)
  level := fun j hj => (pk_un (by omega)).trans (R.level j hj)
  ridged := fun j hj => (pk_un (by omega)).trans (R.ridged j hj)
  chan := fun j hj => (pk_un (by omega)).trans (R.chan j hj)
  fast := fun j hj hi => (pk_un (by omega)).trans (R.fast j hj hi)
  str := fun j hj => (pk_un (by omega)).trans (R.str j hj)
  fuel := fun j hj => (pk_un (by omega)).trans (R.fuel j hj)
  prow := fun j hj => (pk_un (by omega)).trans (R.prow j hj)
  pcol := fun j hj => (pk_un (by omega)).trans (R.pcol j hj)
  told := fun j hj => (pk_un (by omega)).trans (R.told j hj)
  moved := fun j hj => (pk_un (by omega)).trans (R.moved j hj)
  line := fun j hj => (pk_un (by omega)).trans (R.line j hj)
  done := fun j hj => (pk_un (by omega)).trans (R.done j hj)
  ord := fun j hj => by rw [pk_un (by omega), show (fun i => upd all (4) v (3460 + 80 * j + i)) = fun i => all (3460 + 80 * j + i) from funext fun i => pk_un (by omega), show (fun i => upd all (4) v (4100 + 780 * j + i)) = fun i => all (4100 + 780 * j + i) from funext fun i => pk_un (by omega)]; exact R.ord j hj
  cold := fun j hj => (pk_un (by omega)).trans (R.cold j hj)
  way := fun j hj => (pk_un (by omega)).trans (R.way j hj)
  force := fun j hj => (pk_un (by omega)).trans (R.force j hj)

theorem Rg.setGrown {om : Nat → Option OR} {all : Nat → Int32} {g : GU} (R : Rg om all g) (v : Int32) (hs : g.size ≤ 8) : Rg om (upd all (5) v) { g with grown := v } where
  rows := (pk_un (by omega)).trans R.rows
  cols := (pk_un (by omega)).trans R.cols
  size := (pk_un (by omega)).trans R.size
  hour := (pk_un (by omega)).trans R.hour
  laid := (pk_un (by omega)).trans R.laid
  grown := pk_us
  melted := (pk_un (by omega)).trans R.melted
  sea := fun j hj hi => (pk_un (by omega)).trans (R.sea j hj hi)
  level := fun j hj => (pk_un (by omega)).trans (R.level j hj)
  ridged := fun j hj => (pk_un (by omega)).trans (R.ridged j hj)
  chan := fun j hj => (pk_un (by omega)).trans (R.chan j hj)
  fast := fun j hj hi => (pk_un (by omega)).trans (R.fast j hj hi)
  str := fun j hj => (pk_un (by omega)).trans (R.str j hj)
  fuel := fun j hj => (pk_un (by omega)).trans (R.fuel j hj)
  prow := fun j hj => (pk_un (by omega)).trans (R.prow j hj)
  pcol := fun j hj => (pk_un (by omega)).trans (R.pcol j hj)
  told := fun j hj => (pk_un (by omega)).trans (R.told j hj)
  moved := fun j hj => (pk_un (by omega)).trans (R.moved j hj)
  line := fun j hj => (pk_un (by omega)).trans (R.line j hj)
  done := fun j hj => (pk_un (by omega)).trans (R.done j hj)
  ord := fun j hj => by rw [pk_un (by omega), show (fun i => upd all (5) v (3460 + 80 * j + i)) = fun i => all (3460 + 80 * j + i) from funext fun i => pk_un (by omega), show (fun i => upd all (5) v (4100 + 780 * j + i)) = fun i => all (4100 + 780 * j + i) from funext fun i => pk_un (by omega)]; exact R.ord j hj
  cold := fun j hj => (pk_un (by omega)).trans (R.cold j hj)
  way := fun j hj => (pk_un (by omega)).trans (R.way j hj)
  force := fun j hj => (pk_un (by omega)).trans (R.force j hj)

theorem Rg.setMelted {om : Nat → Option OR} {all : Nat → Int32} {g : GU} (R : Rg om all g) (v : Int32) (hs : g.size ≤ 8) : Rg om (upd all (6) v) { g with melted := v } where
  rows := (pk_un (by omega)).trans R.rows
  cols := (pk_un (by omega)).trans R.cols
  size := (pk_un (by omega)).trans R.size
  hour := (pk_un (by omega)).trans R.hour
  laid := (pk_un (by omega)).trans R.laid
  grown := (pk_un (by omega)).trans R.grown
  melted := pk_us
  sea := fun j hj hi => (pk_un (by omega)).trans (R.sea j hj hi)
  level := fun j hj => (pk_un (by omega)).trans (R.level j hj)
  ridged := fun j hj => (pk_un (by omega)).trans (R.ridged j hj)
  chan := fun j hj => (pk_un (by omega)).trans (R.chan j hj)
  fast := fun j hj hi => (pk_un (by omega)).trans (R.fast j hj hi)
  str := fun j hj => (pk_un (by omega)).trans (R.str j hj)
  fuel := fun j hj => (pk_un (by omega)).trans (R.fuel j hj)
  prow := fun j hj => (pk_un (by omega)).trans (R.prow j hj)
  pcol := fun j hj => (pk_un (by omega)).trans (R.pcol j hj)
  told := fun j hj => (pk_un (by omega)).trans (R.told j hj)
  moved := fun j hj => (pk_un (by omega)).trans (R.moved j hj)
  line := fun j hj => (pk_un (by omega)).trans (R.line j hj)
  done := fun j hj => (pk_un (by omega)).trans (R.done j hj)
  ord := fun j hj => by rw [pk_un (by omega), show (fun i => upd all (6) v (3460 + 80 * j + i)) = fun i => all (3460 + 80 * j + i) from funext fun i => pk_un (by omega), show (fun i => upd all (6) v (4100 + 780 * j + i)) = fun i => all (4100 + 780 * j + i) from funext fun i => pk_un (by omega)]; exact R.ord j hj
  cold := fun j hj => (pk_un (by omega)).trans (R.cold j hj)
  way := fun j hj => (pk_un (by omega)).trans (R.way j hj)
  force := fun j hj => (pk_un (by omega)).trans (R.force j hj)

theorem TxR.congr {r : OR} {ln ac ln' ac' : Nat → Int32} (T : TxR r ln ac) (h1 : ∀ k, k < 80 → ln' k = ln k) (h2 : ∀ k, k < 780 → ac' k = ac k) : TxR r ln' ac' where
  ok := T.ok
  frm := fun k hk => (h1 _ (by have := T.ok.l; omega)).trans (T.frm k hk)
  til := fun k hk => (h1 _ (by have := T.ok.l; omega)).trans (T.til k hk)
  act := fun k hk => by rw [h1 _ (by have := T.ok.l; omega)]; exact T.act k hk
  num := fun k hk => (h1 _ (by have := T.ok.l; omega)).trans (T.num k hk)
  st := fun i hi => by rw [h2 _ (by have := T.ok.n; omega), h2 _ (by have := T.ok.n; omega), h2 _ (by have := T.ok.n; omega)]; exact T.st i hi
theorem OrdR.congr {om : Nat → Option OR} {o : Option Nat} {n : Int32} {ln ac ln' ac' : Nat → Int32} (T : OrdR om o n ln ac) (h1 : ∀ k, k < 80 → ln' k = ln k) (h2 : ∀ k, k < 780 → ac' k = ac k) : OrdR om o n ln' ac' := by
  unfold OrdR at *
  cases o with
  | none => exact T
  | some a => obtain ⟨r, e1, e2, e3⟩ := T; exact ⟨r, e1, e2, e3.congr h1 h2⟩
theorem Rg.congr {om : Nat → Option OR} {all all' : Nat → Int32} {g : GU} (R : Rg om all g) (hs : g.size ≤ 8) (h : ∀ i, (i < 7 ∨ 40 ≤ i ∧ i < 10340) → all' i = all i) : Rg om all' g where
  rows := (h _ (by omega)).trans R.rows
  cols := (h _ (by omega)).trans R.cols
  size := (h _ (by omega)).trans R.size
  hour := (h _ (by omega)).trans R.hour
  laid := (h _ (by omega)).trans R.laid
  grown := (h _ (by omega)).trans R.grown
  melted := (h _ (by omega)).trans R.melted
  sea := fun j hj hi => (h _ (by omega)).trans (R.sea j hj hi)
  level := fun j hj => (h _ (by omega)).trans (R.level j hj)
  ridged := fun j hj => (h _ (by omega)).trans (R.ridged j hj)
  chan := fun j hj => (h _ (by omega)).trans (R.chan j hj)
  fast := fun j hj hi => (h _ (by omega)).trans (R.fast j hj hi)
  str := fun j hj => (h _ (by omega)).trans (R.str j hj)
  fuel := fun j hj => (h _ (by omega)).trans (R.fuel j hj)
  prow := fun j hj => (h _ (by omega)).trans (R.prow j hj)
  pcol := fun j hj => (h _ (by omega)).trans (R.pcol j hj)
  told := fun j hj => (h _ (by omega)).trans (R.told j hj)
  moved := fun j hj => (h _ (by omega)).trans (R.moved j hj)
  line := fun j hj => (h _ (by omega)).trans (R.line j hj)
  done := fun j hj => (h _ (by omega)).trans (R.done j hj)
  ord := fun j hj => by rw [h _ (by omega)]; exact (R.ord j hj).congr (fun k hk => h _ (by omega)) (fun k hk => h _ (by omega))
  cold := fun j hj => (h _ (by omega)).trans (R.cold j hj)
  way := fun j hj => (h _ (by omega)).trans (R.way j hj)
  force := fun j hj => (h _ (by omega)).trans (R.force j hj)
/-- all that an image keeps -/
structure WH where
  g : GU
  tlen : Nat
  tape : Nat → Int32
  fault : Int32
  place : Int32
  psize : Nat
  frm : Nat → Int32
  takes : Nat → Int32
  worth : Nat → Int32
  ssize : Nat
  settled : Nat → Int32
structure WfW (w : WH) : Prop where
  g : Wf w.g
  tlen : w.tlen ≤ 400
  tape : ∀ i, i < w.tlen → ∃ b : Nat, b < 256 ∧ w.tape i = nI b
  psize : w.psize ≤ 6
  frm : ∀ k, k < w.psize → ∃ b : Nat, b ≤ 1000 ∧ w.frm k = nI b
  takes : ∀ k, k < w.psize → ∃ b : Nat, b ≤ 100 ∧ w.takes k = nI b
  worth : ∀ k, k < w.psize → ∃ b : Nat, b ≤ 100 ∧ w.worth k = nI b
  ssize : w.ssize ≤ 6
structure RW (om : Nat → Option OR) (all : Nat → Int32) (w : WH) : Prop where
  g : Rg om all w.g
  tlen : all 9 = nI w.tlen
  tape : ∀ i, i < w.tlen → all (10340 + i) = w.tape i
  fault : all 10 = w.fault
  place : all 11 = w.place
  psize : all 7 = nI w.psize
  frm : ∀ k, k < w.psize → all (20 + 3 * k) = w.frm k
  takes : ∀ k, k < w.psize → all (20 + 3 * k + 1) = w.takes k
  worth : ∀ k, k < w.psize → all (20 + 3 * k + 2) = w.worth k
  ssize : all 8 = nI w.ssize
  settled : ∀ k, k < w.ssize → all (12 + k) = w.settled k
/-- from a change of the gulf's own part alone -/
theorem RW.gulf {om : Nat → Option OR} {all all' : Nat → Int32} {w : WH} {g' : GU} (R : RW om all w) (hw : WfW w) (R' : Rg om all' g') (h : ∀ i, (7 ≤ i ∧ i < 40 ∨ 10340 ≤ i) → all' i = all i) : RW om all' { w with g := g' } where
  g := R'
  tlen := (h _ (by omega)).trans R.tlen
  tape := fun i hi => (h _ (by omega)).trans (R.tape i hi)
  fault := (h _ (by omega)).trans R.fault
  place := (h _ (by omega)).trans R.place
  psize := (h _ (by omega)).trans R.psize
  frm := fun k (hk : k < w.psize) => (h _ (by have := hw.psize; omega)).trans (R.frm k hk)
  takes := fun k (hk : k < w.psize) => (h _ (by have := hw.psize; omega)).trans (R.takes k hk)
  worth := fun k (hk : k < w.psize) => (h _ (by have := hw.psize; omega)).trans (R.worth k hk)
  ssize := (h _ (by omega)).trans R.ssize
  settled := fun k (hk : k < w.ssize) => (h _ (by have := hw.ssize; omega)).trans (R.settled k hk)
theorem RW.congr {om : Nat → Option OR} {all all' : Nat → Int32} {w : WH} (R : RW om all w) (hw : WfW w) (h : ∀ i, i < 10740 → all' i = all i) : RW om all' w where
  g := R.g.congr hw.g.s8 (fun i hi => h i (by omega))
  tlen := (h _ (by omega)).trans R.tlen
  tape := fun i hi => (h _ (by have := hw.tlen; omega)).trans (R.tape i hi)
  fault := (h _ (by omega)).trans R.fault
  place := (h _ (by omega)).trans R.place
  psize := (h _ (by omega)).trans R.psize
  frm := fun k hk => (h _ (by have := hw.psize; omega)).trans (R.frm k hk)
  takes := fun k hk => (h _ (by have := hw.psize; omega)).trans (R.takes k hk)
  worth := fun k hk => (h _ (by have := hw.psize; omega)).trans (R.worth k hk)
  ssize := (h _ (by omega)).trans R.ssize
  settled := fun k hk => (h _ (by have := hw.ssize; omega)).trans (R.settled k hk)
