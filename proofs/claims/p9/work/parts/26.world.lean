/-! THE WORLD: every place of it is a number; what changes stands in two structures -/
abbrev MS0 : Type := ((((Nat → Int64) × (Nat × (Nat → Int64))) × (Nat × ((Nat → Int64) × (Nat → Bool)))) × (((Nat → Int32) × (Nat × Nat)) × (Nat × (Bool × Nat))))
abbrev MS1 : Type := ((Nat → Int32) × (Nat × Int32))
abbrev MS2 : Type := (((((Nat × Int64) × (Nat × Nat)) × ((Nat × Int32) × (Bool × Bool))) × ((((Nat → Int64) × Nat) × (Nat × Nat)) × ((Nat × (Nat → Int32)) × ((Nat → Int32) × (Nat → Int32))))) × (((((Nat → Int32) × Nat) × ((Nat → Int32) × (Nat → Int64))) × ((Nat × (Nat → Int32)) × ((Nat → Int32) × (Nat → Bool)))) × (((Nat × (Nat → Int32)) × (Nat × (Nat → Int32))) × ((Bool × Int32) × (Bool × Int32)))))
abbrev MS3 : Type := (((Nat → Int64) × (Nat → Int32)) × ((Nat → Int32) × (Nat × Bool)))
abbrev MS4 : Type := (((Nat → Int64) × ((Nat → Int32) × (Nat → Int32))) × (Nat × ((Nat → Int32) × Nat)))
abbrev MS5 : Type := Nat
abbrev MS : Type := ((MS0 × (MS1 × MS2)) × (MS3 × (MS4 × MS5)))
abbrev MS.G0 (m : MS) : MS0 := m.1.1
abbrev MS.tr (m : MS) : Nat → Int64 := m.1.1.1.1.1
abbrev MS.u_tr (m : MS) (v : Nat → Int64) : MS := (((((v, m.1.1.1.1.2), m.1.1.1.2), m.1.1.2), m.1.2), m.2)
abbrev MS.nt (m : MS) : Nat := m.1.1.1.1.2.1
abbrev MS.u_nt (m : MS) (v : Nat) : MS := (((((m.1.1.1.1.1, (v, m.1.1.1.1.2.2)), m.1.1.1.2), m.1.1.2), m.1.2), m.2)
abbrev MS.kt (m : MS) : Nat → Int64 := m.1.1.1.1.2.2
abbrev MS.u_kt (m : MS) (v : Nat → Int64) : MS := (((((m.1.1.1.1.1, (m.1.1.1.1.2.1, v)), m.1.1.1.2), m.1.1.2), m.1.2), m.2)
abbrev MS.nk (m : MS) : Nat := m.1.1.1.2.1
abbrev MS.u_nk (m : MS) (v : Nat) : MS := ((((m.1.1.1.1, (v, m.1.1.1.2.2)), m.1.1.2), m.1.2), m.2)
abbrev MS.ch (m : MS) : Nat → Int64 := m.1.1.1.2.2.1
abbrev MS.u_ch (m : MS) (v : Nat → Int64) : MS := ((((m.1.1.1.1, (m.1.1.1.2.1, (v, m.1.1.1.2.2.2))), m.1.1.2), m.1.2), m.2)
abbrev MS.pt (m : MS) : Nat → Bool := m.1.1.1.2.2.2
abbrev MS.u_pt (m : MS) (v : Nat → Bool) : MS := ((((m.1.1.1.1, (m.1.1.1.2.1, (m.1.1.1.2.2.1, v))), m.1.1.2), m.1.2), m.2)
abbrev MS.fo (m : MS) : Nat → Int32 := m.1.1.2.1.1
abbrev MS.u_fo (m : MS) (v : Nat → Int32) : MS := (((m.1.1.1, ((v, m.1.1.2.1.2), m.1.1.2.2)), m.1.2), m.2)
abbrev MS.nc (m : MS) : Nat := m.1.1.2.1.2.1
abbrev MS.u_nc (m : MS) (v : Nat) : MS := (((m.1.1.1, ((m.1.1.2.1.1, (v, m.1.1.2.1.2.2)), m.1.1.2.2)), m.1.2), m.2)
abbrev MS.cm (m : MS) : Nat := m.1.1.2.1.2.2
abbrev MS.u_cm (m : MS) (v : Nat) : MS := (((m.1.1.1, ((m.1.1.2.1.1, (m.1.1.2.1.2.1, v)), m.1.1.2.2)), m.1.2), m.2)
abbrev MS.us (m : MS) : Nat := m.1.1.2.2.1
abbrev MS.u_us (m : MS) (v : Nat) : MS := (((m.1.1.1, (m.1.1.2.1, (v, m.1.1.2.2.2))), m.1.2), m.2)
abbrev MS.op (m : MS) : Bool := m.1.1.2.2.2.1
abbrev MS.u_op (m : MS) (v : Bool) : MS := (((m.1.1.1, (m.1.1.2.1, (m.1.1.2.2.1, (v, m.1.1.2.2.2.2)))), m.1.2), m.2)
abbrev MS.of (m : MS) : Nat := m.1.1.2.2.2.2
abbrev MS.u_of (m : MS) (v : Nat) : MS := (((m.1.1.1, (m.1.1.2.1, (m.1.1.2.2.1, (m.1.1.2.2.2.1, v)))), m.1.2), m.2)
abbrev MS.G1 (m : MS) : MS1 := m.1.2.1
abbrev MS.tx (m : MS) : Nat → Int32 := m.1.2.1.1
abbrev MS.u_tx (m : MS) (v : Nat → Int32) : MS := ((m.1.1, ((v, m.1.2.1.2), m.1.2.2)), m.2)
abbrev MS.ln (m : MS) : Nat := m.1.2.1.2.1
abbrev MS.u_ln (m : MS) (v : Nat) : MS := ((m.1.1, ((m.1.2.1.1, (v, m.1.2.1.2.2)), m.1.2.2)), m.2)
abbrev MS.fa (m : MS) : Int32 := m.1.2.1.2.2
abbrev MS.u_fa (m : MS) (v : Int32) : MS := ((m.1.1, ((m.1.2.1.1, (m.1.2.1.2.1, v)), m.1.2.2)), m.2)
abbrev MS.G2 (m : MS) : MS2 := m.1.2.2
abbrev MS.kd (m : MS) : Nat := m.1.2.2.1.1.1.1.1
abbrev MS.u_kd (m : MS) (v : Nat) : MS := ((m.1.1, (m.1.2.1, (((((v, m.1.2.2.1.1.1.1.2), m.1.2.2.1.1.1.2), m.1.2.2.1.1.2), m.1.2.2.1.2), m.1.2.2.2))), m.2)
abbrev MS.tk (m : MS) : Int64 := m.1.2.2.1.1.1.1.2
abbrev MS.u_tk (m : MS) (v : Int64) : MS := ((m.1.1, (m.1.2.1, (((((m.1.2.2.1.1.1.1.1, v), m.1.2.2.1.1.1.2), m.1.2.2.1.1.2), m.1.2.2.1.2), m.1.2.2.2))), m.2)
abbrev MS.sa (m : MS) : Nat := m.1.2.2.1.1.1.2.1
abbrev MS.u_sa (m : MS) (v : Nat) : MS := ((m.1.1, (m.1.2.1, ((((m.1.2.2.1.1.1.1, (v, m.1.2.2.1.1.1.2.2)), m.1.2.2.1.1.2), m.1.2.2.1.2), m.1.2.2.2))), m.2)
abbrev MS.en (m : MS) : Nat := m.1.2.2.1.1.1.2.2
abbrev MS.u_en (m : MS) (v : Nat) : MS := ((m.1.1, (m.1.2.1, ((((m.1.2.2.1.1.1.1, (m.1.2.2.1.1.1.2.1, v)), m.1.2.2.1.1.2), m.1.2.2.1.2), m.1.2.2.2))), m.2)
abbrev MS.bh (m : MS) : Nat := m.1.2.2.1.1.2.1.1
abbrev MS.u_bh (m : MS) (v : Nat) : MS := ((m.1.1, (m.1.2.1, (((m.1.2.2.1.1.1, ((v, m.1.2.2.1.1.2.1.2), m.1.2.2.1.1.2.2)), m.1.2.2.1.2), m.1.2.2.2))), m.2)
abbrev MS.wr (m : MS) : Int32 := m.1.2.2.1.1.2.1.2
abbrev MS.u_wr (m : MS) (v : Int32) : MS := ((m.1.1, (m.1.2.1, (((m.1.2.2.1.1.1, ((m.1.2.2.1.1.2.1.1, v), m.1.2.2.1.1.2.2)), m.1.2.2.1.2), m.1.2.2.2))), m.2)
abbrev MS.ss (m : MS) : Bool := m.1.2.2.1.1.2.2.1
abbrev MS.u_ss (m : MS) (v : Bool) : MS := ((m.1.1, (m.1.2.1, (((m.1.2.2.1.1.1, (m.1.2.2.1.1.2.1, (v, m.1.2.2.1.1.2.2.2))), m.1.2.2.1.2), m.1.2.2.2))), m.2)
abbrev MS.hs (m : MS) : Bool := m.1.2.2.1.1.2.2.2
abbrev MS.u_hs (m : MS) (v : Bool) : MS := ((m.1.1, (m.1.2.1, (((m.1.2.2.1.1.1, (m.1.2.2.1.1.2.1, (m.1.2.2.1.1.2.2.1, v))), m.1.2.2.1.2), m.1.2.2.2))), m.2)
abbrev MS.nm (m : MS) : Nat → Int64 := m.1.2.2.1.2.1.1.1
abbrev MS.u_nm (m : MS) (v : Nat → Int64) : MS := ((m.1.1, (m.1.2.1, ((m.1.2.2.1.1, (((v, m.1.2.2.1.2.1.1.2), m.1.2.2.1.2.1.2), m.1.2.2.1.2.2)), m.1.2.2.2))), m.2)
abbrev MS.nn (m : MS) : Nat := m.1.2.2.1.2.1.1.2
abbrev MS.u_nn (m : MS) (v : Nat) : MS := ((m.1.1, (m.1.2.1, ((m.1.2.2.1.1, (((m.1.2.2.1.2.1.1.1, v), m.1.2.2.1.2.1.2), m.1.2.2.1.2.2)), m.1.2.2.2))), m.2)
abbrev MS.el (m : MS) : Nat := m.1.2.2.1.2.1.2.1
abbrev MS.u_el (m : MS) (v : Nat) : MS := ((m.1.1, (m.1.2.1, ((m.1.2.2.1.1, ((m.1.2.2.1.2.1.1, (v, m.1.2.2.1.2.1.2.2)), m.1.2.2.1.2.2)), m.1.2.2.2))), m.2)
abbrev MS.gr (m : MS) : Nat := m.1.2.2.1.2.1.2.2
abbrev MS.u_gr (m : MS) (v : Nat) : MS := ((m.1.1, (m.1.2.1, ((m.1.2.2.1.1, ((m.1.2.2.1.2.1.1, (m.1.2.2.1.2.1.2.1, v)), m.1.2.2.1.2.2)), m.1.2.2.2))), m.2)
abbrev MS.dp (m : MS) : Nat := m.1.2.2.1.2.2.1.1
abbrev MS.u_dp (m : MS) (v : Nat) : MS := ((m.1.1, (m.1.2.1, ((m.1.2.2.1.1, (m.1.2.2.1.2.1, ((v, m.1.2.2.1.2.2.1.2), m.1.2.2.1.2.2.2))), m.1.2.2.2))), m.2)
abbrev MS.gk (m : MS) : Nat → Int32 := m.1.2.2.1.2.2.1.2
abbrev MS.u_gk (m : MS) (v : Nat → Int32) : MS := ((m.1.1, (m.1.2.1, ((m.1.2.2.1.1, (m.1.2.2.1.2.1, ((m.1.2.2.1.2.2.1.1, v), m.1.2.2.1.2.2.2))), m.1.2.2.2))), m.2)
abbrev MS.gi (m : MS) : Nat → Int32 := m.1.2.2.1.2.2.2.1
abbrev MS.u_gi (m : MS) (v : Nat → Int32) : MS := ((m.1.1, (m.1.2.1, ((m.1.2.2.1.1, (m.1.2.2.1.2.1, (m.1.2.2.1.2.2.1, (v, m.1.2.2.1.2.2.2.2)))), m.1.2.2.2))), m.2)
abbrev MS.oo (m : MS) : Nat → Int32 := m.1.2.2.1.2.2.2.2
abbrev MS.u_oo (m : MS) (v : Nat → Int32) : MS := ((m.1.1, (m.1.2.1, ((m.1.2.2.1.1, (m.1.2.2.1.2.1, (m.1.2.2.1.2.2.1, (m.1.2.2.1.2.2.2.1, v)))), m.1.2.2.2))), m.2)
abbrev MS.ar (m : MS) : Nat → Int32 := m.1.2.2.2.1.1.1.1
abbrev MS.u_ar (m : MS) (v : Nat → Int32) : MS := ((m.1.1, (m.1.2.1, (m.1.2.2.1, ((((v, m.1.2.2.2.1.1.1.2), m.1.2.2.2.1.1.2), m.1.2.2.2.1.2), m.1.2.2.2.2)))), m.2)
abbrev MS.no (m : MS) : Nat := m.1.2.2.2.1.1.1.2
abbrev MS.u_no (m : MS) (v : Nat) : MS := ((m.1.1, (m.1.2.1, (m.1.2.2.1, ((((m.1.2.2.2.1.1.1.1, v), m.1.2.2.2.1.1.2), m.1.2.2.2.1.2), m.1.2.2.2.2)))), m.2)
abbrev MS.sd (m : MS) : Nat → Int32 := m.1.2.2.2.1.1.2.1
abbrev MS.u_sd (m : MS) (v : Nat → Int32) : MS := ((m.1.1, (m.1.2.1, (m.1.2.2.1, (((m.1.2.2.2.1.1.1, (v, m.1.2.2.2.1.1.2.2)), m.1.2.2.2.1.2), m.1.2.2.2.2)))), m.2)
abbrev MS.te (m : MS) : Nat → Int64 := m.1.2.2.2.1.1.2.2
abbrev MS.u_te (m : MS) (v : Nat → Int64) : MS := ((m.1.1, (m.1.2.1, (m.1.2.2.1, (((m.1.2.2.2.1.1.1, (m.1.2.2.2.1.1.2.1, v)), m.1.2.2.2.1.2), m.1.2.2.2.2)))), m.2)
abbrev MS.np (m : MS) : Nat := m.1.2.2.2.1.2.1.1
abbrev MS.u_np (m : MS) (v : Nat) : MS := ((m.1.1, (m.1.2.1, (m.1.2.2.1, ((m.1.2.2.2.1.1, ((v, m.1.2.2.2.1.2.1.2), m.1.2.2.2.1.2.2)), m.1.2.2.2.2)))), m.2)
abbrev MS.tg (m : MS) : Nat → Int32 := m.1.2.2.2.1.2.1.2
abbrev MS.u_tg (m : MS) (v : Nat → Int32) : MS := ((m.1.1, (m.1.2.1, (m.1.2.2.1, ((m.1.2.2.2.1.1, ((m.1.2.2.2.1.2.1.1, v), m.1.2.2.2.1.2.2)), m.1.2.2.2.2)))), m.2)
abbrev MS.ts (m : MS) : Nat → Int32 := m.1.2.2.2.1.2.2.1
abbrev MS.u_ts (m : MS) (v : Nat → Int32) : MS := ((m.1.1, (m.1.2.1, (m.1.2.2.1, ((m.1.2.2.2.1.1, (m.1.2.2.2.1.2.1, (v, m.1.2.2.2.1.2.2.2))), m.1.2.2.2.2)))), m.2)
abbrev MS.tn (m : MS) : Nat → Bool := m.1.2.2.2.1.2.2.2
abbrev MS.u_tn (m : MS) (v : Nat → Bool) : MS := ((m.1.1, (m.1.2.1, (m.1.2.2.1, ((m.1.2.2.2.1.1, (m.1.2.2.2.1.2.1, (m.1.2.2.2.1.2.2.1, v))), m.1.2.2.2.2)))), m.2)
abbrev MS.ne (m : MS) : Nat := m.1.2.2.2.2.1.1.1
abbrev MS.u_ne (m : MS) (v : Nat) : MS := ((m.1.1, (m.1.2.1, (m.1.2.2.1, (m.1.2.2.2.1, (((v, m.1.2.2.2.2.1.1.2), m.1.2.2.2.2.1.2), m.1.2.2.2.2.2))))), m.2)
abbrev MS.wa (m : MS) : Nat → Int32 := m.1.2.2.2.2.1.1.2
abbrev MS.u_wa (m : MS) (v : Nat → Int32) : MS := ((m.1.1, (m.1.2.1, (m.1.2.2.1, (m.1.2.2.2.1, (((m.1.2.2.2.2.1.1.1, v), m.1.2.2.2.2.1.2), m.1.2.2.2.2.2))))), m.2)
abbrev MS.nw (m : MS) : Nat := m.1.2.2.2.2.1.2.1
abbrev MS.u_nw (m : MS) (v : Nat) : MS := ((m.1.1, (m.1.2.1, (m.1.2.2.1, (m.1.2.2.2.1, ((m.1.2.2.2.2.1.1, (v, m.1.2.2.2.2.1.2.2)), m.1.2.2.2.2.2))))), m.2)
abbrev MS.bs (m : MS) : Nat → Int32 := m.1.2.2.2.2.1.2.2
abbrev MS.u_bs (m : MS) (v : Nat → Int32) : MS := ((m.1.1, (m.1.2.1, (m.1.2.2.1, (m.1.2.2.2.1, ((m.1.2.2.2.2.1.1, (m.1.2.2.2.2.1.2.1, v)), m.1.2.2.2.2.2))))), m.2)
abbrev MS.di (m : MS) : Bool := m.1.2.2.2.2.2.1.1
abbrev MS.u_di (m : MS) (v : Bool) : MS := ((m.1.1, (m.1.2.1, (m.1.2.2.1, (m.1.2.2.2.1, (m.1.2.2.2.2.1, ((v, m.1.2.2.2.2.2.1.2), m.1.2.2.2.2.2.2)))))), m.2)
abbrev MS.ob (m : MS) : Int32 := m.1.2.2.2.2.2.1.2
abbrev MS.u_ob (m : MS) (v : Int32) : MS := ((m.1.1, (m.1.2.1, (m.1.2.2.1, (m.1.2.2.2.1, (m.1.2.2.2.2.1, ((m.1.2.2.2.2.2.1.1, v), m.1.2.2.2.2.2.2)))))), m.2)
abbrev MS.fl (m : MS) : Bool := m.1.2.2.2.2.2.2.1
abbrev MS.u_fl (m : MS) (v : Bool) : MS := ((m.1.1, (m.1.2.1, (m.1.2.2.1, (m.1.2.2.2.1, (m.1.2.2.2.2.1, (m.1.2.2.2.2.2.1, (v, m.1.2.2.2.2.2.2.2))))))), m.2)
abbrev MS.li (m : MS) : Int32 := m.1.2.2.2.2.2.2.2
abbrev MS.u_li (m : MS) (v : Int32) : MS := ((m.1.1, (m.1.2.1, (m.1.2.2.1, (m.1.2.2.2.1, (m.1.2.2.2.2.1, (m.1.2.2.2.2.2.1, (m.1.2.2.2.2.2.2.1, v))))))), m.2)
abbrev MS.G3 (m : MS) : MS3 := m.2.1
abbrev MS.va (m : MS) : Nat → Int64 := m.2.1.1.1
abbrev MS.u_va (m : MS) (v : Nat → Int64) : MS := (m.1, (((v, m.2.1.1.2), m.2.1.2), m.2.2))
abbrev MS.gv (m : MS) : Nat → Int32 := m.2.1.1.2
abbrev MS.u_gv (m : MS) (v : Nat → Int32) : MS := (m.1, (((m.2.1.1.1, v), m.2.1.2), m.2.2))
abbrev MS.sz (m : MS) : Nat → Int32 := m.2.1.2.1
abbrev MS.u_sz (m : MS) (v : Nat → Int32) : MS := (m.1, ((m.2.1.1, (v, m.2.1.2.2)), m.2.2))
abbrev MS.tp (m : MS) : Nat := m.2.1.2.2.1
abbrev MS.u_tp (m : MS) (v : Nat) : MS := (m.1, ((m.2.1.1, (m.2.1.2.1, (v, m.2.1.2.2.2))), m.2.2))
abbrev MS.tm (m : MS) : Bool := m.2.1.2.2.2
abbrev MS.u_tm (m : MS) (v : Bool) : MS := (m.1, ((m.2.1.1, (m.2.1.2.1, (m.2.1.2.2.1, v))), m.2.2))
abbrev MS.G4 (m : MS) : MS4 := m.2.2.1
abbrev MS.ro (m : MS) : Nat → Int64 := m.2.2.1.1.1
abbrev MS.u_ro (m : MS) (v : Nat → Int64) : MS := (m.1, (m.2.1, (((v, m.2.2.1.1.2), m.2.2.1.2), m.2.2.2)))
abbrev MS.rg (m : MS) : Nat → Int32 := m.2.2.1.1.2.1
abbrev MS.u_rg (m : MS) (v : Nat → Int32) : MS := (m.1, (m.2.1, (((m.2.2.1.1.1, (v, m.2.2.1.1.2.2)), m.2.2.1.2), m.2.2.2)))
abbrev MS.ra (m : MS) : Nat → Int32 := m.2.2.1.1.2.2
abbrev MS.u_ra (m : MS) (v : Nat → Int32) : MS := (m.1, (m.2.1, (((m.2.2.1.1.1, (m.2.2.1.1.2.1, v)), m.2.2.1.2), m.2.2.2)))
abbrev MS.nr (m : MS) : Nat := m.2.2.1.2.1
abbrev MS.u_nr (m : MS) (v : Nat) : MS := (m.1, (m.2.1, ((m.2.2.1.1, (v, m.2.2.1.2.2)), m.2.2.2)))
abbrev MS.co (m : MS) : Nat → Int32 := m.2.2.1.2.2.1
abbrev MS.u_co (m : MS) (v : Nat → Int32) : MS := (m.1, (m.2.1, ((m.2.2.1.1, (m.2.2.1.2.1, (v, m.2.2.1.2.2.2))), m.2.2.2)))
abbrev MS.nl (m : MS) : Nat := m.2.2.1.2.2.2
abbrev MS.u_nl (m : MS) (v : Nat) : MS := (m.1, (m.2.1, ((m.2.2.1.1, (m.2.2.1.2.1, (m.2.2.1.2.2.1, v))), m.2.2.2)))
abbrev MS.G5 (m : MS) : MS5 := m.2.2.2
abbrev MS.cd (m : MS) : Nat := m.2.2.2
abbrev MS.u_cd (m : MS) (v : Nat) : MS := (m.1, (m.2.1, (m.2.2.1, v)))
abbrev CS0 : Type := ((((Nat → Bool) × ((Nat → Int32) × Bool)) × ((Nat × Nat) × (Nat × (Nat → Int64)))) × (((Nat → Int64) × ((Nat → Int64) × Nat)) × (((Nat → Int64) × (Nat → Int64)) × ((Nat → Int64) × Nat))))
abbrev CS1 : Type := ((Nat → Int32) × (Nat × Int32))
abbrev CS2 : Type := (((Nat → Int32) × (Nat → Int64)) × ((Nat → Int32) × (Nat × Nat)))
abbrev CS3 : Type := (((((Nat → Int64) × Nat) × ((Nat → Int32) × (Nat × Bool))) × ((Int32 × Bool) × (Int32 × ((Nat → Option Nat) × Nat)))) × ((((Nat → Int32) × Nat) × ((Nat → Int32) × ((Nat → Int32) × (Nat → Int64)))) × (((Nat → Int64) × (Nat → Int64)) × ((Nat → Int32) × ((Nat → Int32) × Int64)))))
abbrev CS4 : Type := (((Nat → Option Nat) × (Nat → Option Nat)) × ((Nat → Int64) × ((Nat → Nat) × (Nat → Nat → Int64))))
abbrev CS5 : Type := (((Nat → Int64) × (Nat → Int32)) × (Nat × Nat))
abbrev CS : Type := ((CS0 × (CS1 × CS2)) × (CS3 × (CS4 × CS5)))
abbrev CS.G0 (c : CS) : CS0 := c.1.1
abbrev CS.si (c : CS) : Nat → Bool := c.1.1.1.1.1
abbrev CS.u_si (c : CS) (v : Nat → Bool) : CS := (((((v, c.1.1.1.1.2), c.1.1.1.2), c.1.1.2), c.1.2), c.2)
abbrev CS.sx (c : CS) : Nat → Int32 := c.1.1.1.1.2.1
abbrev CS.u_sx (c : CS) (v : Nat → Int32) : CS := (((((c.1.1.1.1.1, (v, c.1.1.1.1.2.2)), c.1.1.1.2), c.1.1.2), c.1.2), c.2)
abbrev CS.so (c : CS) : Bool := c.1.1.1.1.2.2
abbrev CS.u_so (c : CS) (v : Bool) : CS := (((((c.1.1.1.1.1, (c.1.1.1.1.2.1, v)), c.1.1.1.2), c.1.1.2), c.1.2), c.2)
abbrev CS.sc (c : CS) : Nat := c.1.1.1.2.1.1
abbrev CS.u_sc (c : CS) (v : Nat) : CS := ((((c.1.1.1.1, ((v, c.1.1.1.2.1.2), c.1.1.1.2.2)), c.1.1.2), c.1.2), c.2)
abbrev CS.sm (c : CS) : Nat := c.1.1.1.2.1.2
abbrev CS.u_sm (c : CS) (v : Nat) : CS := ((((c.1.1.1.1, ((c.1.1.1.2.1.1, v), c.1.1.1.2.2)), c.1.1.2), c.1.2), c.2)
abbrev CS.su (c : CS) : Nat := c.1.1.1.2.2.1
abbrev CS.u_su (c : CS) (v : Nat) : CS := ((((c.1.1.1.1, (c.1.1.1.2.1, (v, c.1.1.1.2.2.2))), c.1.1.2), c.1.2), c.2)
abbrev CS.ta (c : CS) : Nat → Int64 := c.1.1.1.2.2.2
abbrev CS.u_ta (c : CS) (v : Nat → Int64) : CS := ((((c.1.1.1.1, (c.1.1.1.2.1, (c.1.1.1.2.2.1, v))), c.1.1.2), c.1.2), c.2)
abbrev CS.tb (c : CS) : Nat → Int64 := c.1.1.2.1.1
abbrev CS.u_tb (c : CS) (v : Nat → Int64) : CS := (((c.1.1.1, ((v, c.1.1.2.1.2), c.1.1.2.2)), c.1.2), c.2)
abbrev CS.tc (c : CS) : Nat → Int64 := c.1.1.2.1.2.1
abbrev CS.u_tc (c : CS) (v : Nat → Int64) : CS := (((c.1.1.1, ((c.1.1.2.1.1, (v, c.1.1.2.1.2.2)), c.1.1.2.2)), c.1.2), c.2)
abbrev CS.tn (c : CS) : Nat := c.1.1.2.1.2.2
abbrev CS.u_tn (c : CS) (v : Nat) : CS := (((c.1.1.1, ((c.1.1.2.1.1, (c.1.1.2.1.2.1, v)), c.1.1.2.2)), c.1.2), c.2)
abbrev CS.ga (c : CS) : Nat → Int64 := c.1.1.2.2.1.1
abbrev CS.u_ga (c : CS) (v : Nat → Int64) : CS := (((c.1.1.1, (c.1.1.2.1, ((v, c.1.1.2.2.1.2), c.1.1.2.2.2))), c.1.2), c.2)
abbrev CS.gb (c : CS) : Nat → Int64 := c.1.1.2.2.1.2
abbrev CS.u_gb (c : CS) (v : Nat → Int64) : CS := (((c.1.1.1, (c.1.1.2.1, ((c.1.1.2.2.1.1, v), c.1.1.2.2.2))), c.1.2), c.2)
abbrev CS.gc (c : CS) : Nat → Int64 := c.1.1.2.2.2.1
abbrev CS.u_gc (c : CS) (v : Nat → Int64) : CS := (((c.1.1.1, (c.1.1.2.1, (c.1.1.2.2.1, (v, c.1.1.2.2.2.2)))), c.1.2), c.2)
abbrev CS.gn (c : CS) : Nat := c.1.1.2.2.2.2
abbrev CS.u_gn (c : CS) (v : Nat) : CS := (((c.1.1.1, (c.1.1.2.1, (c.1.1.2.2.1, (c.1.1.2.2.2.1, v)))), c.1.2), c.2)
abbrev CS.G1 (c : CS) : CS1 := c.1.2.1
abbrev CS.tx (c : CS) : Nat → Int32 := c.1.2.1.1
abbrev CS.u_tx (c : CS) (v : Nat → Int32) : CS := ((c.1.1, ((v, c.1.2.1.2), c.1.2.2)), c.2)
abbrev CS.ln (c : CS) : Nat := c.1.2.1.2.1
abbrev CS.u_ln (c : CS) (v : Nat) : CS := ((c.1.1, ((c.1.2.1.1, (v, c.1.2.1.2.2)), c.1.2.2)), c.2)
abbrev CS.fa (c : CS) : Int32 := c.1.2.1.2.2
abbrev CS.u_fa (c : CS) (v : Int32) : CS := ((c.1.1, ((c.1.2.1.1, (c.1.2.1.2.1, v)), c.1.2.2)), c.2)
abbrev CS.G2 (c : CS) : CS2 := c.1.2.2
abbrev CS.kk (c : CS) : Nat → Int32 := c.1.2.2.1.1
abbrev CS.u_kk (c : CS) (v : Nat → Int32) : CS := ((c.1.1, (c.1.2.1, ((v, c.1.2.2.1.2), c.1.2.2.2))), c.2)
abbrev CS.kv (c : CS) : Nat → Int64 := c.1.2.2.1.2
abbrev CS.u_kv (c : CS) (v : Nat → Int64) : CS := ((c.1.1, (c.1.2.1, ((c.1.2.2.1.1, v), c.1.2.2.2))), c.2)
abbrev CS.kp (c : CS) : Nat → Int32 := c.1.2.2.2.1
abbrev CS.u_kp (c : CS) (v : Nat → Int32) : CS := ((c.1.1, (c.1.2.1, (c.1.2.2.1, (v, c.1.2.2.2.2)))), c.2)
abbrev CS.kn (c : CS) : Nat := c.1.2.2.2.2.1
abbrev CS.u_kn (c : CS) (v : Nat) : CS := ((c.1.1, (c.1.2.1, (c.1.2.2.1, (c.1.2.2.2.1, (v, c.1.2.2.2.2.2))))), c.2)
abbrev CS.ka (c : CS) : Nat := c.1.2.2.2.2.2
abbrev CS.u_ka (c : CS) (v : Nat) : CS := ((c.1.1, (c.1.2.1, (c.1.2.2.1, (c.1.2.2.2.1, (c.1.2.2.2.2.1, v))))), c.2)
abbrev CS.G3 (c : CS) : CS3 := c.2.1
abbrev CS.qn (c : CS) : Nat → Int64 := c.2.1.1.1.1.1
abbrev CS.u_qn (c : CS) (v : Nat → Int64) : CS := (c.1, (((((v, c.2.1.1.1.1.2), c.2.1.1.1.2), c.2.1.1.2), c.2.1.2), c.2.2))
abbrev CS.qv (c : CS) : Nat := c.2.1.1.1.1.2
abbrev CS.u_qv (c : CS) (v : Nat) : CS := (c.1, (((((c.2.1.1.1.1.1, v), c.2.1.1.1.2), c.2.1.1.2), c.2.1.2), c.2.2))
abbrev CS.qs (c : CS) : Nat → Int32 := c.2.1.1.1.2.1
abbrev CS.u_qs (c : CS) (v : Nat → Int32) : CS := (c.1, ((((c.2.1.1.1.1, (v, c.2.1.1.1.2.2)), c.2.1.1.2), c.2.1.2), c.2.2))
abbrev CS.qc (c : CS) : Nat := c.2.1.1.1.2.2.1
abbrev CS.u_qc (c : CS) (v : Nat) : CS := (c.1, ((((c.2.1.1.1.1, (c.2.1.1.1.2.1, (v, c.2.1.1.1.2.2.2))), c.2.1.1.2), c.2.1.2), c.2.2))
abbrev CS.qd (c : CS) : Bool := c.2.1.1.1.2.2.2
abbrev CS.u_qd (c : CS) (v : Bool) : CS := (c.1, ((((c.2.1.1.1.1, (c.2.1.1.1.2.1, (c.2.1.1.1.2.2.1, v))), c.2.1.1.2), c.2.1.2), c.2.2))
abbrev CS.qo (c : CS) : Int32 := c.2.1.1.2.1.1
abbrev CS.u_qo (c : CS) (v : Int32) : CS := (c.1, (((c.2.1.1.1, ((v, c.2.1.1.2.1.2), c.2.1.1.2.2)), c.2.1.2), c.2.2))
abbrev CS.qf (c : CS) : Bool := c.2.1.1.2.1.2
abbrev CS.u_qf (c : CS) (v : Bool) : CS := (c.1, (((c.2.1.1.1, ((c.2.1.1.2.1.1, v), c.2.1.1.2.2)), c.2.1.2), c.2.2))
abbrev CS.ql (c : CS) : Int32 := c.2.1.1.2.2.1
abbrev CS.u_ql (c : CS) (v : Int32) : CS := (c.1, (((c.2.1.1.1, (c.2.1.1.2.1, (v, c.2.1.1.2.2.2))), c.2.1.2), c.2.2))
abbrev CS.qx (c : CS) : Nat → Option Nat := c.2.1.1.2.2.2.1
abbrev CS.u_qx (c : CS) (v : Nat → Option Nat) : CS := (c.1, (((c.2.1.1.1, (c.2.1.1.2.1, (c.2.1.1.2.2.1, (v, c.2.1.1.2.2.2.2)))), c.2.1.2), c.2.2))
abbrev CS.qe (c : CS) : Nat := c.2.1.1.2.2.2.2
abbrev CS.u_qe (c : CS) (v : Nat) : CS := (c.1, (((c.2.1.1.1, (c.2.1.1.2.1, (c.2.1.1.2.2.1, (c.2.1.1.2.2.2.1, v)))), c.2.1.2), c.2.2))
abbrev CS.qh (c : CS) : Nat → Int32 := c.2.1.2.1.1.1
abbrev CS.u_qh (c : CS) (v : Nat → Int32) : CS := (c.1, ((c.2.1.1, (((v, c.2.1.2.1.1.2), c.2.1.2.1.2), c.2.1.2.2)), c.2.2))
abbrev CS.qg (c : CS) : Nat := c.2.1.2.1.1.2
abbrev CS.u_qg (c : CS) (v : Nat) : CS := (c.1, ((c.2.1.1, (((c.2.1.2.1.1.1, v), c.2.1.2.1.2), c.2.1.2.2)), c.2.2))
abbrev CS.eK (c : CS) : Nat → Int32 := c.2.1.2.1.2.1
abbrev CS.u_eK (c : CS) (v : Nat → Int32) : CS := (c.1, ((c.2.1.1, ((c.2.1.2.1.1, (v, c.2.1.2.1.2.2)), c.2.1.2.2)), c.2.2))
abbrev CS.eH (c : CS) : Nat → Int32 := c.2.1.2.1.2.2.1
abbrev CS.u_eH (c : CS) (v : Nat → Int32) : CS := (c.1, ((c.2.1.1, ((c.2.1.2.1.1, (c.2.1.2.1.2.1, (v, c.2.1.2.1.2.2.2))), c.2.1.2.2)), c.2.2))
abbrev CS.e1 (c : CS) : Nat → Int64 := c.2.1.2.1.2.2.2
abbrev CS.u_e1 (c : CS) (v : Nat → Int64) : CS := (c.1, ((c.2.1.1, ((c.2.1.2.1.1, (c.2.1.2.1.2.1, (c.2.1.2.1.2.2.1, v))), c.2.1.2.2)), c.2.2))
abbrev CS.e2 (c : CS) : Nat → Int64 := c.2.1.2.2.1.1
abbrev CS.u_e2 (c : CS) (v : Nat → Int64) : CS := (c.1, ((c.2.1.1, (c.2.1.2.1, ((v, c.2.1.2.2.1.2), c.2.1.2.2.2))), c.2.2))
abbrev CS.e3 (c : CS) : Nat → Int64 := c.2.1.2.2.1.2
abbrev CS.u_e3 (c : CS) (v : Nat → Int64) : CS := (c.1, ((c.2.1.1, (c.2.1.2.1, ((c.2.1.2.2.1.1, v), c.2.1.2.2.2))), c.2.2))
abbrev CS.eS (c : CS) : Nat → Int32 := c.2.1.2.2.2.1
abbrev CS.u_eS (c : CS) (v : Nat → Int32) : CS := (c.1, ((c.2.1.1, (c.2.1.2.1, (c.2.1.2.2.1, (v, c.2.1.2.2.2.2)))), c.2.2))
abbrev CS.eN (c : CS) : Nat → Int32 := c.2.1.2.2.2.2.1
abbrev CS.u_eN (c : CS) (v : Nat → Int32) : CS := (c.1, ((c.2.1.1, (c.2.1.2.1, (c.2.1.2.2.1, (c.2.1.2.2.2.1, (v, c.2.1.2.2.2.2.2))))), c.2.2))
abbrev CS.ps (c : CS) : Int64 := c.2.1.2.2.2.2.2
abbrev CS.u_ps (c : CS) (v : Int64) : CS := (c.1, ((c.2.1.1, (c.2.1.2.1, (c.2.1.2.2.1, (c.2.1.2.2.2.1, (c.2.1.2.2.2.2.1, v))))), c.2.2))
abbrev CS.G4 (c : CS) : CS4 := c.2.2.1
abbrev CS.vf (c : CS) : Nat → Option Nat := c.2.2.1.1.1
abbrev CS.u_vf (c : CS) (v : Nat → Option Nat) : CS := (c.1, (c.2.1, (((v, c.2.2.1.1.2), c.2.2.1.2), c.2.2.2)))
abbrev CS.vn (c : CS) : Nat → Option Nat := c.2.2.1.1.2
abbrev CS.u_vn (c : CS) (v : Nat → Option Nat) : CS := (c.1, (c.2.1, (((c.2.2.1.1.1, v), c.2.2.1.2), c.2.2.2)))
abbrev CS.vd (c : CS) : Nat → Int64 := c.2.2.1.2.1
abbrev CS.u_vd (c : CS) (v : Nat → Int64) : CS := (c.1, (c.2.1, ((c.2.2.1.1, (v, c.2.2.1.2.2)), c.2.2.2)))
abbrev CS.zn (c : CS) : Nat → Nat := c.2.2.1.2.2.1
abbrev CS.u_zn (c : CS) (v : Nat → Nat) : CS := (c.1, (c.2.1, ((c.2.2.1.1, (c.2.2.1.2.1, (v, c.2.2.1.2.2.2))), c.2.2.2)))
abbrev CS.zt (c : CS) : Nat → Nat → Int64 := c.2.2.1.2.2.2
abbrev CS.u_zt (c : CS) (v : Nat → Nat → Int64) : CS := (c.1, (c.2.1, ((c.2.2.1.1, (c.2.2.1.2.1, (c.2.2.1.2.2.1, v))), c.2.2.2)))
abbrev CS.G5 (c : CS) : CS5 := c.2.2.2
abbrev CS.rt (c : CS) : Nat → Int64 := c.2.2.2.1.1
abbrev CS.u_rt (c : CS) (v : Nat → Int64) : CS := (c.1, (c.2.1, (c.2.2.1, ((v, c.2.2.2.1.2), c.2.2.2.2))))
abbrev CS.ro (c : CS) : Nat → Int32 := c.2.2.2.1.2
abbrev CS.u_ro (c : CS) (v : Nat → Int32) : CS := (c.1, (c.2.1, (c.2.2.1, ((c.2.2.2.1.1, v), c.2.2.2.2))))
abbrev CS.rc (c : CS) : Nat := c.2.2.2.2.1
abbrev CS.u_rc (c : CS) (v : Nat) : CS := (c.1, (c.2.1, (c.2.2.1, (c.2.2.2.1, (v, c.2.2.2.2.2)))))
abbrev CS.rn (c : CS) : Nat := c.2.2.2.2.2
abbrev CS.u_rn (c : CS) (v : Nat) : CS := (c.1, (c.2.1, (c.2.2.1, (c.2.2.2.1, (c.2.2.2.2.1, v)))))
def tsF (c : CS) : List Value := [.ref 1, .ref 12, .ref 13, .ref 17, .ref 34, .ref 35, .ref 55, .int (nI c.ln), .int c.fa]
def stF (c : CS) : List Value := [.ref 2, .ref 6, .ref 10, .ref 11, .int (bI c.so), .int (nI c.sc), .int (nI c.sm), .int (nI c.su)]
def toF (c : CS) : List Value := [.ref 14, .ref 15, .ref 16, .int (nI c.kn), .int (nI c.ka)]
def quF (c : CS) : List Value := [.ref 18, .int (nI c.qv), .ref 19, .int (nI c.qc), .int (bI c.qd), .int c.qo, .int (bI c.qf), .int c.ql, .ref 20, .int (nI c.qe), .ref 21, .int (nI c.qg)]
def paF (c : CS) : List Value := [.ref 13, .ref 17, .long c.ps]
def svF : List Value := [.ref 1, .ref 17, .ref 36, .ref 37, .ref 38]
def roF (c : CS) : List Value := [.ref 56, .ref 57, .int (nI c.rc), .int (nI c.rn)]
def moF (m : MS) : List Value := [.ref 59, .int (nI m.nt), .ref 60, .int (nI m.nk), .ref 61, .ref 62, .ref 63, .int (nI m.nc), .int (nI m.cm), .int (nI m.us), .int (bI m.op), .int (nI m.of), .ref 64, .int (nI m.ln), .int m.fa, .int (nI m.kd), .long m.tk, .int (nI m.sa), .int (nI m.en), .int (nI m.bh), .int m.wr, .int (bI m.ss), .int (bI m.hs), .ref 65, .int (nI m.nn), .int (nI m.el), .int (nI m.gr), .int (nI m.dp), .ref 66, .ref 67, .ref 68, .ref 69, .int (nI m.no), .ref 70, .ref 71, .int (nI m.np), .ref 72, .ref 73, .ref 74, .int (nI m.ne), .ref 75, .int (nI m.nw), .ref 76, .int (bI m.di), .int m.ob, .int (bI m.fl), .int m.li, .ref 77, .ref 78, .ref 79, .int (nI m.tp), .int (bI m.tm), .ref 80, .ref 81, .ref 82, .int (nI m.nr), .ref 83, .int (nI m.nl), .int (nI m.cd)]
def t1F (c : CS) : List Value := [.ref 3, .ref 4, .ref 5, .int (nI c.tn)]
def t2F (c : CS) : List Value := [.ref 7, .ref 8, .ref 9, .int (nI c.gn)]
def elF (c : CS) (i : Nat) : List Value := [.int (c.eK i), .int (c.eH i), .long (c.e1 i), .long (c.e2 i), .long (c.e3 i), .int (c.eS i), .int (c.eN i)]
def W9 (c : CS) (m : MS) (o : Nat → Int64) : List mC := [.inr (9, tsF c), .inr (6, stF c), .inr (8, t1F c), .inl (1, 48, .inr (.inl c.ta)), .inl (1, 48, .inr (.inl c.tb)), .inl (1, 48, .inr (.inl c.tc)), .inr (8, t2F c), .inl (1, 512, .inr (.inl c.ga)), .inl (1, 512, .inr (.inl c.gb)), .inl (1, 512, .inr (.inl c.gc)), .inl (3, 512, .inl (fun i => bI (c.si i))), .inl (0, 512, .inl c.sx), .inl (2, 160, .inl c.tx), .inr (7, toF c), .inl (0, 161, .inl c.kk), .inl (1, 161, .inr (.inl c.kv)), .inl (0, 161, .inl c.kp), .inr (2, quF c), .inl (1, 6, .inr (.inl c.qn)), .inl (0, 6, .inl c.qs), .inl (4, 12, .inr (.inr (.inr (.inr c.qx)))), .inl (0, 145, .inl c.qh), .inr (0, elF c 0), .inr (0, elF c 1), .inr (0, elF c 2), .inr (0, elF c 3), .inr (0, elF c 4), .inr (0, elF c 5), .inr (0, elF c 6), .inr (0, elF c 7), .inr (0, elF c 8), .inr (0, elF c 9), .inr (0, elF c 10), .inr (0, elF c 11), .inr (1, paF c), .inr (5, svF), .inl (5, 4, .inr (.inr (.inr (.inr c.vf)))), .inl (5, 4, .inr (.inr (.inr (.inr c.vn)))), .inl (1, 6, .inr (.inl c.vd)), .inr (4, [.ref 40, .int (nI (c.zn 0))]), .inl (1, 900, .inr (.inl (c.zt 0))), .inr (4, [.ref 42, .int (nI (c.zn 1))]), .inl (1, 900, .inr (.inl (c.zt 1))), .inr (4, [.ref 44, .int (nI (c.zn 2))]), .inl (1, 900, .inr (.inl (c.zt 2))), .inr (4, [.ref 46, .int (nI (c.zn 3))]), .inl (1, 900, .inr (.inl (c.zt 3))), .inr (4, [.ref 48, .int (nI (c.zn 4))]), .inl (1, 900, .inr (.inl (c.zt 4))), .inr (4, [.ref 50, .int (nI (c.zn 5))]), .inl (1, 900, .inr (.inl (c.zt 5))), .inr (4, [.ref 52, .int (nI (c.zn 6))]), .inl (1, 900, .inr (.inl (c.zt 6))), .inr (4, [.ref 54, .int (nI (c.zn 7))]), .inl (1, 900, .inr (.inl (c.zt 7))), .inr (3, roF c), .inl (1, 900, .inr (.inl c.rt)), .inl (0, 150, .inl c.ro), .inr (10, moF m), .inl (1, 144, .inr (.inl m.tr)), .inl (1, 144, .inr (.inl m.kt)), .inl (1, 2400, .inr (.inl m.ch)), .inl (3, 800, .inl (fun i => bI (m.pt i))), .inl (0, 800, .inl m.fo), .inl (0, 160, .inl m.tx), .inl (1, 6, .inr (.inl m.nm)), .inl (0, 5, .inl m.gk), .inl (0, 5, .inl m.gi), .inl (0, 400, .inl m.oo), .inl (0, 400, .inl m.ar), .inl (0, 120, .inl m.sd), .inl (1, 120, .inr (.inl m.te)), .inl (0, 14, .inl m.tg), .inl (0, 14, .inl m.ts), .inl (3, 14, .inl (fun i => bI (m.tn i))), .inl (0, 80, .inl m.wa), .inl (0, 5, .inl m.bs), .inl (1, 9900, .inr (.inl m.va)), .inl (0, 1650, .inl m.gv), .inl (0, 11, .inl m.sz), .inl (1, 900, .inr (.inl m.ro)), .inl (0, 150, .inl m.rg), .inl (0, 150, .inl m.ra), .inl (0, 80, .inl m.co), .inl (1, 1, .inr (.inl o))]
section W9
variable {c : CS} {m : MS} {o : Nat → Int64}
theorem rW_0 : (W9 c m o)[0]? = some (.inr (9, tsF c)) := rfl
theorem rW_1 : (W9 c m o)[1]? = some (.inr (6, stF c)) := rfl
theorem rW_2 : (W9 c m o)[2]? = some (.inr (8, t1F c)) := rfl
theorem rW_3 : (W9 c m o)[3]? = some (.inl (1, 48, .inr (.inl c.ta))) := rfl
theorem rW_4 : (W9 c m o)[4]? = some (.inl (1, 48, .inr (.inl c.tb))) := rfl
theorem rW_5 : (W9 c m o)[5]? = some (.inl (1, 48, .inr (.inl c.tc))) := rfl
theorem rW_6 : (W9 c m o)[6]? = some (.inr (8, t2F c)) := rfl
theorem rW_7 : (W9 c m o)[7]? = some (.inl (1, 512, .inr (.inl c.ga))) := rfl
theorem rW_8 : (W9 c m o)[8]? = some (.inl (1, 512, .inr (.inl c.gb))) := rfl
theorem rW_9 : (W9 c m o)[9]? = some (.inl (1, 512, .inr (.inl c.gc))) := rfl
theorem rW_10 : (W9 c m o)[10]? = some (.inl (3, 512, .inl (fun i => bI (c.si i)))) := rfl
theorem rW_11 : (W9 c m o)[11]? = some (.inl (0, 512, .inl c.sx)) := rfl
theorem rW_12 : (W9 c m o)[12]? = some (.inl (2, 160, .inl c.tx)) := rfl
theorem rW_13 : (W9 c m o)[13]? = some (.inr (7, toF c)) := rfl
theorem rW_14 : (W9 c m o)[14]? = some (.inl (0, 161, .inl c.kk)) := rfl
theorem rW_15 : (W9 c m o)[15]? = some (.inl (1, 161, .inr (.inl c.kv))) := rfl
theorem rW_16 : (W9 c m o)[16]? = some (.inl (0, 161, .inl c.kp)) := rfl
theorem rW_17 : (W9 c m o)[17]? = some (.inr (2, quF c)) := rfl
theorem rW_18 : (W9 c m o)[18]? = some (.inl (1, 6, .inr (.inl c.qn))) := rfl
theorem rW_19 : (W9 c m o)[19]? = some (.inl (0, 6, .inl c.qs)) := rfl
theorem rW_20 : (W9 c m o)[20]? = some (.inl (4, 12, .inr (.inr (.inr (.inr c.qx))))) := rfl
theorem rW_21 : (W9 c m o)[21]? = some (.inl (0, 145, .inl c.qh)) := rfl
theorem rW_22 : (W9 c m o)[22]? = some (.inr (0, elF c 0)) := rfl
theorem rW_23 : (W9 c m o)[23]? = some (.inr (0, elF c 1)) := rfl
theorem rW_24 : (W9 c m o)[24]? = some (.inr (0, elF c 2)) := rfl
theorem rW_25 : (W9 c m o)[25]? = some (.inr (0, elF c 3)) := rfl
theorem rW_26 : (W9 c m o)[26]? = some (.inr (0, elF c 4)) := rfl
theorem rW_27 : (W9 c m o)[27]? = some (.inr (0, elF c 5)) := rfl
theorem rW_28 : (W9 c m o)[28]? = some (.inr (0, elF c 6)) := rfl
theorem rW_29 : (W9 c m o)[29]? = some (.inr (0, elF c 7)) := rfl
theorem rW_30 : (W9 c m o)[30]? = some (.inr (0, elF c 8)) := rfl
theorem rW_31 : (W9 c m o)[31]? = some (.inr (0, elF c 9)) := rfl
theorem rW_32 : (W9 c m o)[32]? = some (.inr (0, elF c 10)) := rfl
theorem rW_33 : (W9 c m o)[33]? = some (.inr (0, elF c 11)) := rfl
theorem rW_34 : (W9 c m o)[34]? = some (.inr (1, paF c)) := rfl
theorem rW_35 : (W9 c m o)[35]? = some (.inr (5, svF)) := rfl
theorem rW_36 : (W9 c m o)[36]? = some (.inl (5, 4, .inr (.inr (.inr (.inr c.vf))))) := rfl
theorem rW_37 : (W9 c m o)[37]? = some (.inl (5, 4, .inr (.inr (.inr (.inr c.vn))))) := rfl
theorem rW_38 : (W9 c m o)[38]? = some (.inl (1, 6, .inr (.inl c.vd))) := rfl
theorem rW_39 : (W9 c m o)[39]? = some (.inr (4, [.ref 40, .int (nI (c.zn 0))])) := rfl
theorem rW_40 : (W9 c m o)[40]? = some (.inl (1, 900, .inr (.inl (c.zt 0)))) := rfl
theorem rW_41 : (W9 c m o)[41]? = some (.inr (4, [.ref 42, .int (nI (c.zn 1))])) := rfl
theorem rW_42 : (W9 c m o)[42]? = some (.inl (1, 900, .inr (.inl (c.zt 1)))) := rfl
theorem rW_43 : (W9 c m o)[43]? = some (.inr (4, [.ref 44, .int (nI (c.zn 2))])) := rfl
theorem rW_44 : (W9 c m o)[44]? = some (.inl (1, 900, .inr (.inl (c.zt 2)))) := rfl
theorem rW_45 : (W9 c m o)[45]? = some (.inr (4, [.ref 46, .int (nI (c.zn 3))])) := rfl
theorem rW_46 : (W9 c m o)[46]? = some (.inl (1, 900, .inr (.inl (c.zt 3)))) := rfl
theorem rW_47 : (W9 c m o)[47]? = some (.inr (4, [.ref 48, .int (nI (c.zn 4))])) := rfl
theorem rW_48 : (W9 c m o)[48]? = some (.inl (1, 900, .inr (.inl (c.zt 4)))) := rfl
theorem rW_49 : (W9 c m o)[49]? = some (.inr (4, [.ref 50, .int (nI (c.zn 5))])) := rfl
theorem rW_50 : (W9 c m o)[50]? = some (.inl (1, 900, .inr (.inl (c.zt 5)))) := rfl
theorem rW_51 : (W9 c m o)[51]? = some (.inr (4, [.ref 52, .int (nI (c.zn 6))])) := rfl
theorem rW_52 : (W9 c m o)[52]? = some (.inl (1, 900, .inr (.inl (c.zt 6)))) := rfl
theorem rW_53 : (W9 c m o)[53]? = some (.inr (4, [.ref 54, .int (nI (c.zn 7))])) := rfl
theorem rW_54 : (W9 c m o)[54]? = some (.inl (1, 900, .inr (.inl (c.zt 7)))) := rfl
theorem rW_55 : (W9 c m o)[55]? = some (.inr (3, roF c)) := rfl
theorem rW_56 : (W9 c m o)[56]? = some (.inl (1, 900, .inr (.inl c.rt))) := rfl
theorem rW_57 : (W9 c m o)[57]? = some (.inl (0, 150, .inl c.ro)) := rfl
theorem rW_58 : (W9 c m o)[58]? = some (.inr (10, moF m)) := rfl
theorem rW_59 : (W9 c m o)[59]? = some (.inl (1, 144, .inr (.inl m.tr))) := rfl
theorem rW_60 : (W9 c m o)[60]? = some (.inl (1, 144, .inr (.inl m.kt))) := rfl
theorem rW_61 : (W9 c m o)[61]? = some (.inl (1, 2400, .inr (.inl m.ch))) := rfl
theorem rW_62 : (W9 c m o)[62]? = some (.inl (3, 800, .inl (fun i => bI (m.pt i)))) := rfl
theorem rW_63 : (W9 c m o)[63]? = some (.inl (0, 800, .inl m.fo)) := rfl
theorem rW_64 : (W9 c m o)[64]? = some (.inl (0, 160, .inl m.tx)) := rfl
theorem rW_65 : (W9 c m o)[65]? = some (.inl (1, 6, .inr (.inl m.nm))) := rfl
theorem rW_66 : (W9 c m o)[66]? = some (.inl (0, 5, .inl m.gk)) := rfl
theorem rW_67 : (W9 c m o)[67]? = some (.inl (0, 5, .inl m.gi)) := rfl
theorem rW_68 : (W9 c m o)[68]? = some (.inl (0, 400, .inl m.oo)) := rfl
theorem rW_69 : (W9 c m o)[69]? = some (.inl (0, 400, .inl m.ar)) := rfl
theorem rW_70 : (W9 c m o)[70]? = some (.inl (0, 120, .inl m.sd)) := rfl
theorem rW_71 : (W9 c m o)[71]? = some (.inl (1, 120, .inr (.inl m.te))) := rfl
theorem rW_72 : (W9 c m o)[72]? = some (.inl (0, 14, .inl m.tg)) := rfl
theorem rW_73 : (W9 c m o)[73]? = some (.inl (0, 14, .inl m.ts)) := rfl
theorem rW_74 : (W9 c m o)[74]? = some (.inl (3, 14, .inl (fun i => bI (m.tn i)))) := rfl
theorem rW_75 : (W9 c m o)[75]? = some (.inl (0, 80, .inl m.wa)) := rfl
theorem rW_76 : (W9 c m o)[76]? = some (.inl (0, 5, .inl m.bs)) := rfl
theorem rW_77 : (W9 c m o)[77]? = some (.inl (1, 9900, .inr (.inl m.va))) := rfl
theorem rW_78 : (W9 c m o)[78]? = some (.inl (0, 1650, .inl m.gv)) := rfl
theorem rW_79 : (W9 c m o)[79]? = some (.inl (0, 11, .inl m.sz)) := rfl
theorem rW_80 : (W9 c m o)[80]? = some (.inl (1, 900, .inr (.inl m.ro))) := rfl
theorem rW_81 : (W9 c m o)[81]? = some (.inl (0, 150, .inl m.rg)) := rfl
theorem rW_82 : (W9 c m o)[82]? = some (.inl (0, 150, .inl m.ra)) := rfl
theorem rW_83 : (W9 c m o)[83]? = some (.inl (0, 80, .inl m.co)) := rfl
theorem rW_84 : (W9 c m o)[84]? = some (.inl (1, 1, .inr (.inl o))) := rfl
theorem rF_TS_0 : (tsF c)[0]? = some (.ref 1) := rfl
theorem rF_TS_1 : (tsF c)[1]? = some (.ref 12) := rfl
theorem rF_TS_2 : (tsF c)[2]? = some (.ref 13) := rfl
theorem rF_TS_3 : (tsF c)[3]? = some (.ref 17) := rfl
theorem rF_TS_4 : (tsF c)[4]? = some (.ref 34) := rfl
theorem rF_TS_5 : (tsF c)[5]? = some (.ref 35) := rfl
theorem rF_TS_6 : (tsF c)[6]? = some (.ref 55) := rfl
theorem rF_TS_7 : (tsF c)[7]? = some (.int (nI c.ln)) := rfl
theorem sF_TS_7 {v : Nat} {x : Int32} (h : x = nI v) : (tsF c).set 7 (.int x) = tsF (c.u_ln v) := by subst h; rfl
theorem sO_TS_7 {v : Nat} {fs : List Value} (h : fs = tsF (c.u_ln v)) : (W9 c m o).set 0 (.inr (9, fs)) = W9 (c.u_ln v) m o := by subst h; rfl
theorem rF_TS_8 : (tsF c)[8]? = some (.int c.fa) := rfl
theorem sF_TS_8 {v : Int32} : (tsF c).set 8 (.int v) = tsF (c.u_fa v) := rfl
theorem sO_TS_8 {v : Int32} {fs : List Value} (h : fs = tsF (c.u_fa v)) : (W9 c m o).set 0 (.inr (9, fs)) = W9 (c.u_fa v) m o := by subst h; rfl
theorem rF_St_0 : (stF c)[0]? = some (.ref 2) := rfl
theorem rF_St_1 : (stF c)[1]? = some (.ref 6) := rfl
theorem rF_St_2 : (stF c)[2]? = some (.ref 10) := rfl
theorem rF_St_3 : (stF c)[3]? = some (.ref 11) := rfl
theorem rF_St_4 : (stF c)[4]? = some (.int (bI c.so)) := rfl
theorem sF_St_4 {v : Bool} {x : Int32} (h : x = bI v) : (stF c).set 4 (.int x) = stF (c.u_so v) := by subst h; rfl
theorem sO_St_4 {v : Bool} {fs : List Value} (h : fs = stF (c.u_so v)) : (W9 c m o).set 1 (.inr (6, fs)) = W9 (c.u_so v) m o := by subst h; rfl
theorem rF_St_5 : (stF c)[5]? = some (.int (nI c.sc)) := rfl
theorem sF_St_5 {v : Nat} {x : Int32} (h : x = nI v) : (stF c).set 5 (.int x) = stF (c.u_sc v) := by subst h; rfl
theorem sO_St_5 {v : Nat} {fs : List Value} (h : fs = stF (c.u_sc v)) : (W9 c m o).set 1 (.inr (6, fs)) = W9 (c.u_sc v) m o := by subst h; rfl
theorem rF_St_6 : (stF c)[6]? = some (.int (nI c.sm)) := rfl
theorem sF_St_6 {v : Nat} {x : Int32} (h : x = nI v) : (stF c).set 6 (.int x) = stF (c.u_sm v) := by subst h; rfl
theorem sO_St_6 {v : Nat} {fs : List Value} (h : fs = stF (c.u_sm v)) : (W9 c m o).set 1 (.inr (6, fs)) = W9 (c.u_sm v) m o := by subst h; rfl
theorem rF_St_7 : (stF c)[7]? = some (.int (nI c.su)) := rfl
theorem sF_St_7 {v : Nat} {x : Int32} (h : x = nI v) : (stF c).set 7 (.int x) = stF (c.u_su v) := by subst h; rfl
theorem sO_St_7 {v : Nat} {fs : List Value} (h : fs = stF (c.u_su v)) : (W9 c m o).set 1 (.inr (6, fs)) = W9 (c.u_su v) m o := by subst h; rfl
theorem rF_To_0 : (toF c)[0]? = some (.ref 14) := rfl
theorem rF_To_1 : (toF c)[1]? = some (.ref 15) := rfl
theorem rF_To_2 : (toF c)[2]? = some (.ref 16) := rfl
theorem rF_To_3 : (toF c)[3]? = some (.int (nI c.kn)) := rfl
theorem sF_To_3 {v : Nat} {x : Int32} (h : x = nI v) : (toF c).set 3 (.int x) = toF (c.u_kn v) := by subst h; rfl
theorem sO_To_3 {v : Nat} {fs : List Value} (h : fs = toF (c.u_kn v)) : (W9 c m o).set 13 (.inr (7, fs)) = W9 (c.u_kn v) m o := by subst h; rfl
theorem rF_To_4 : (toF c)[4]? = some (.int (nI c.ka)) := rfl
theorem sF_To_4 {v : Nat} {x : Int32} (h : x = nI v) : (toF c).set 4 (.int x) = toF (c.u_ka v) := by subst h; rfl
theorem sO_To_4 {v : Nat} {fs : List Value} (h : fs = toF (c.u_ka v)) : (W9 c m o).set 13 (.inr (7, fs)) = W9 (c.u_ka v) m o := by subst h; rfl
theorem rF_Qu_0 : (quF c)[0]? = some (.ref 18) := rfl
theorem rF_Qu_1 : (quF c)[1]? = some (.int (nI c.qv)) := rfl
theorem sF_Qu_1 {v : Nat} {x : Int32} (h : x = nI v) : (quF c).set 1 (.int x) = quF (c.u_qv v) := by subst h; rfl
theorem sO_Qu_1 {v : Nat} {fs : List Value} (h : fs = quF (c.u_qv v)) : (W9 c m o).set 17 (.inr (2, fs)) = W9 (c.u_qv v) m o := by subst h; rfl
theorem rF_Qu_2 : (quF c)[2]? = some (.ref 19) := rfl
theorem rF_Qu_3 : (quF c)[3]? = some (.int (nI c.qc)) := rfl
theorem sF_Qu_3 {v : Nat} {x : Int32} (h : x = nI v) : (quF c).set 3 (.int x) = quF (c.u_qc v) := by subst h; rfl
theorem sO_Qu_3 {v : Nat} {fs : List Value} (h : fs = quF (c.u_qc v)) : (W9 c m o).set 17 (.inr (2, fs)) = W9 (c.u_qc v) m o := by subst h; rfl
theorem rF_Qu_4 : (quF c)[4]? = some (.int (bI c.qd)) := rfl
theorem sF_Qu_4 {v : Bool} {x : Int32} (h : x = bI v) : (quF c).set 4 (.int x) = quF (c.u_qd v) := by subst h; rfl
theorem sO_Qu_4 {v : Bool} {fs : List Value} (h : fs = quF (c.u_qd v)) : (W9 c m o).set 17 (.inr (2, fs)) = W9 (c.u_qd v) m o := by subst h; rfl
theorem rF_Qu_5 : (quF c)[5]? = some (.int c.qo) := rfl
theorem sF_Qu_5 {v : Int32} : (quF c).set 5 (.int v) = quF (c.u_qo v) := rfl
theorem sO_Qu_5 {v : Int32} {fs : List Value} (h : fs = quF (c.u_qo v)) : (W9 c m o).set 17 (.inr (2, fs)) = W9 (c.u_qo v) m o := by subst h; rfl
theorem rF_Qu_6 : (quF c)[6]? = some (.int (bI c.qf)) := rfl
theorem sF_Qu_6 {v : Bool} {x : Int32} (h : x = bI v) : (quF c).set 6 (.int x) = quF (c.u_qf v) := by subst h; rfl
theorem sO_Qu_6 {v : Bool} {fs : List Value} (h : fs = quF (c.u_qf v)) : (W9 c m o).set 17 (.inr (2, fs)) = W9 (c.u_qf v) m o := by subst h; rfl
theorem rF_Qu_7 : (quF c)[7]? = some (.int c.ql) := rfl
theorem sF_Qu_7 {v : Int32} : (quF c).set 7 (.int v) = quF (c.u_ql v) := rfl
theorem sO_Qu_7 {v : Int32} {fs : List Value} (h : fs = quF (c.u_ql v)) : (W9 c m o).set 17 (.inr (2, fs)) = W9 (c.u_ql v) m o := by subst h; rfl
theorem rF_Qu_8 : (quF c)[8]? = some (.ref 20) := rfl
theorem rF_Qu_9 : (quF c)[9]? = some (.int (nI c.qe)) := rfl
theorem sF_Qu_9 {v : Nat} {x : Int32} (h : x = nI v) : (quF c).set 9 (.int x) = quF (c.u_qe v) := by subst h; rfl
theorem sO_Qu_9 {v : Nat} {fs : List Value} (h : fs = quF (c.u_qe v)) : (W9 c m o).set 17 (.inr (2, fs)) = W9 (c.u_qe v) m o := by subst h; rfl
theorem rF_Qu_10 : (quF c)[10]? = some (.ref 21) := rfl
theorem rF_Qu_11 : (quF c)[11]? = some (.int (nI c.qg)) := rfl
theorem sF_Qu_11 {v : Nat} {x : Int32} (h : x = nI v) : (quF c).set 11 (.int x) = quF (c.u_qg v) := by subst h; rfl
theorem sO_Qu_11 {v : Nat} {fs : List Value} (h : fs = quF (c.u_qg v)) : (W9 c m o).set 17 (.inr (2, fs)) = W9 (c.u_qg v) m o := by subst h; rfl
theorem rF_Pa_0 : (paF c)[0]? = some (.ref 13) := rfl
theorem rF_Pa_1 : (paF c)[1]? = some (.ref 17) := rfl
theorem rF_Pa_2 : (paF c)[2]? = some (.long c.ps) := rfl
theorem sF_Pa_2 {v : Int64} : (paF c).set 2 (.long v) = paF (c.u_ps v) := rfl
theorem sO_Pa_2 {v : Int64} {fs : List Value} (h : fs = paF (c.u_ps v)) : (W9 c m o).set 34 (.inr (1, fs)) = W9 (c.u_ps v) m o := by subst h; rfl
theorem rF_Sv_0 : (svF)[0]? = some (.ref 1) := rfl
theorem rF_Sv_1 : (svF)[1]? = some (.ref 17) := rfl
theorem rF_Sv_2 : (svF)[2]? = some (.ref 36) := rfl
theorem rF_Sv_3 : (svF)[3]? = some (.ref 37) := rfl
theorem rF_Sv_4 : (svF)[4]? = some (.ref 38) := rfl
theorem rF_Ro_0 : (roF c)[0]? = some (.ref 56) := rfl
theorem rF_Ro_1 : (roF c)[1]? = some (.ref 57) := rfl
theorem rF_Ro_2 : (roF c)[2]? = some (.int (nI c.rc)) := rfl
theorem sF_Ro_2 {v : Nat} {x : Int32} (h : x = nI v) : (roF c).set 2 (.int x) = roF (c.u_rc v) := by subst h; rfl
theorem sO_Ro_2 {v : Nat} {fs : List Value} (h : fs = roF (c.u_rc v)) : (W9 c m o).set 55 (.inr (3, fs)) = W9 (c.u_rc v) m o := by subst h; rfl
theorem rF_Ro_3 : (roF c)[3]? = some (.int (nI c.rn)) := rfl
theorem sF_Ro_3 {v : Nat} {x : Int32} (h : x = nI v) : (roF c).set 3 (.int x) = roF (c.u_rn v) := by subst h; rfl
theorem sO_Ro_3 {v : Nat} {fs : List Value} (h : fs = roF (c.u_rn v)) : (W9 c m o).set 55 (.inr (3, fs)) = W9 (c.u_rn v) m o := by subst h; rfl
theorem rF_Mo_0 : (moF m)[0]? = some (.ref 59) := rfl
theorem rF_Mo_1 : (moF m)[1]? = some (.int (nI m.nt)) := rfl
theorem sF_Mo_1 {v : Nat} {x : Int32} (h : x = nI v) : (moF m).set 1 (.int x) = moF (m.u_nt v) := by subst h; rfl
theorem sO_Mo_1 {v : Nat} {fs : List Value} (h : fs = moF (m.u_nt v)) : (W9 c m o).set 58 (.inr (10, fs)) = W9 c (m.u_nt v) o := by subst h; rfl
theorem rF_Mo_2 : (moF m)[2]? = some (.ref 60) := rfl
theorem rF_Mo_3 : (moF m)[3]? = some (.int (nI m.nk)) := rfl
theorem sF_Mo_3 {v : Nat} {x : Int32} (h : x = nI v) : (moF m).set 3 (.int x) = moF (m.u_nk v) := by subst h; rfl
theorem sO_Mo_3 {v : Nat} {fs : List Value} (h : fs = moF (m.u_nk v)) : (W9 c m o).set 58 (.inr (10, fs)) = W9 c (m.u_nk v) o := by subst h; rfl
theorem rF_Mo_4 : (moF m)[4]? = some (.ref 61) := rfl
theorem rF_Mo_5 : (moF m)[5]? = some (.ref 62) := rfl
theorem rF_Mo_6 : (moF m)[6]? = some (.ref 63) := rfl
theorem rF_Mo_7 : (moF m)[7]? = some (.int (nI m.nc)) := rfl
theorem sF_Mo_7 {v : Nat} {x : Int32} (h : x = nI v) : (moF m).set 7 (.int x) = moF (m.u_nc v) := by subst h; rfl
theorem sO_Mo_7 {v : Nat} {fs : List Value} (h : fs = moF (m.u_nc v)) : (W9 c m o).set 58 (.inr (10, fs)) = W9 c (m.u_nc v) o := by subst h; rfl
theorem rF_Mo_8 : (moF m)[8]? = some (.int (nI m.cm)) := rfl
theorem sF_Mo_8 {v : Nat} {x : Int32} (h : x = nI v) : (moF m).set 8 (.int x) = moF (m.u_cm v) := by subst h; rfl
theorem sO_Mo_8 {v : Nat} {fs : List Value} (h : fs = moF (m.u_cm v)) : (W9 c m o).set 58 (.inr (10, fs)) = W9 c (m.u_cm v) o := by subst h; rfl
theorem rF_Mo_9 : (moF m)[9]? = some (.int (nI m.us)) := rfl
theorem sF_Mo_9 {v : Nat} {x : Int32} (h : x = nI v) : (moF m).set 9 (.int x) = moF (m.u_us v) := by subst h; rfl
theorem sO_Mo_9 {v : Nat} {fs : List Value} (h : fs = moF (m.u_us v)) : (W9 c m o).set 58 (.inr (10, fs)) = W9 c (m.u_us v) o := by subst h; rfl
theorem rF_Mo_10 : (moF m)[10]? = some (.int (bI m.op)) := rfl
theorem sF_Mo_10 {v : Bool} {x : Int32} (h : x = bI v) : (moF m).set 10 (.int x) = moF (m.u_op v) := by subst h; rfl
theorem sO_Mo_10 {v : Bool} {fs : List Value} (h : fs = moF (m.u_op v)) : (W9 c m o).set 58 (.inr (10, fs)) = W9 c (m.u_op v) o := by subst h; rfl
theorem rF_Mo_11 : (moF m)[11]? = some (.int (nI m.of)) := rfl
theorem sF_Mo_11 {v : Nat} {x : Int32} (h : x = nI v) : (moF m).set 11 (.int x) = moF (m.u_of v) := by subst h; rfl
theorem sO_Mo_11 {v : Nat} {fs : List Value} (h : fs = moF (m.u_of v)) : (W9 c m o).set 58 (.inr (10, fs)) = W9 c (m.u_of v) o := by subst h; rfl
theorem rF_Mo_12 : (moF m)[12]? = some (.ref 64) := rfl
theorem rF_Mo_13 : (moF m)[13]? = some (.int (nI m.ln)) := rfl
theorem sF_Mo_13 {v : Nat} {x : Int32} (h : x = nI v) : (moF m).set 13 (.int x) = moF (m.u_ln v) := by subst h; rfl
theorem sO_Mo_13 {v : Nat} {fs : List Value} (h : fs = moF (m.u_ln v)) : (W9 c m o).set 58 (.inr (10, fs)) = W9 c (m.u_ln v) o := by subst h; rfl
theorem rF_Mo_14 : (moF m)[14]? = some (.int m.fa) := rfl
theorem sF_Mo_14 {v : Int32} : (moF m).set 14 (.int v) = moF (m.u_fa v) := rfl
theorem sO_Mo_14 {v : Int32} {fs : List Value} (h : fs = moF (m.u_fa v)) : (W9 c m o).set 58 (.inr (10, fs)) = W9 c (m.u_fa v) o := by subst h; rfl
theorem rF_Mo_15 : (moF m)[15]? = some (.int (nI m.kd)) := rfl
theorem sF_Mo_15 {v : Nat} {x : Int32} (h : x = nI v) : (moF m).set 15 (.int x) = moF (m.u_kd v) := by subst h; rfl
theorem sO_Mo_15 {v : Nat} {fs : List Value} (h : fs = moF (m.u_kd v)) : (W9 c m o).set 58 (.inr (10, fs)) = W9 c (m.u_kd v) o := by subst h; rfl
theorem rF_Mo_16 : (moF m)[16]? = some (.long m.tk) := rfl
theorem sF_Mo_16 {v : Int64} : (moF m).set 16 (.long v) = moF (m.u_tk v) := rfl
theorem sO_Mo_16 {v : Int64} {fs : List Value} (h : fs = moF (m.u_tk v)) : (W9 c m o).set 58 (.inr (10, fs)) = W9 c (m.u_tk v) o := by subst h; rfl
theorem rF_Mo_17 : (moF m)[17]? = some (.int (nI m.sa)) := rfl
theorem sF_Mo_17 {v : Nat} {x : Int32} (h : x = nI v) : (moF m).set 17 (.int x) = moF (m.u_sa v) := by subst h; rfl
theorem sO_Mo_17 {v : Nat} {fs : List Value} (h : fs = moF (m.u_sa v)) : (W9 c m o).set 58 (.inr (10, fs)) = W9 c (m.u_sa v) o := by subst h; rfl
theorem rF_Mo_18 : (moF m)[18]? = some (.int (nI m.en)) := rfl
theorem sF_Mo_18 {v : Nat} {x : Int32} (h : x = nI v) : (moF m).set 18 (.int x) = moF (m.u_en v) := by subst h; rfl
theorem sO_Mo_18 {v : Nat} {fs : List Value} (h : fs = moF (m.u_en v)) : (W9 c m o).set 58 (.inr (10, fs)) = W9 c (m.u_en v) o := by subst h; rfl
theorem rF_Mo_19 : (moF m)[19]? = some (.int (nI m.bh)) := rfl
theorem sF_Mo_19 {v : Nat} {x : Int32} (h : x = nI v) : (moF m).set 19 (.int x) = moF (m.u_bh v) := by subst h; rfl
theorem sO_Mo_19 {v : Nat} {fs : List Value} (h : fs = moF (m.u_bh v)) : (W9 c m o).set 58 (.inr (10, fs)) = W9 c (m.u_bh v) o := by subst h; rfl
theorem rF_Mo_20 : (moF m)[20]? = some (.int m.wr) := rfl
theorem sF_Mo_20 {v : Int32} : (moF m).set 20 (.int v) = moF (m.u_wr v) := rfl
theorem sO_Mo_20 {v : Int32} {fs : List Value} (h : fs = moF (m.u_wr v)) : (W9 c m o).set 58 (.inr (10, fs)) = W9 c (m.u_wr v) o := by subst h; rfl
theorem rF_Mo_21 : (moF m)[21]? = some (.int (bI m.ss)) := rfl
theorem sF_Mo_21 {v : Bool} {x : Int32} (h : x = bI v) : (moF m).set 21 (.int x) = moF (m.u_ss v) := by subst h; rfl
theorem sO_Mo_21 {v : Bool} {fs : List Value} (h : fs = moF (m.u_ss v)) : (W9 c m o).set 58 (.inr (10, fs)) = W9 c (m.u_ss v) o := by subst h; rfl
theorem rF_Mo_22 : (moF m)[22]? = some (.int (bI m.hs)) := rfl
theorem sF_Mo_22 {v : Bool} {x : Int32} (h : x = bI v) : (moF m).set 22 (.int x) = moF (m.u_hs v) := by subst h; rfl
theorem sO_Mo_22 {v : Bool} {fs : List Value} (h : fs = moF (m.u_hs v)) : (W9 c m o).set 58 (.inr (10, fs)) = W9 c (m.u_hs v) o := by subst h; rfl
theorem rF_Mo_23 : (moF m)[23]? = some (.ref 65) := rfl
theorem rF_Mo_24 : (moF m)[24]? = some (.int (nI m.nn)) := rfl
theorem sF_Mo_24 {v : Nat} {x : Int32} (h : x = nI v) : (moF m).set 24 (.int x) = moF (m.u_nn v) := by subst h; rfl
theorem sO_Mo_24 {v : Nat} {fs : List Value} (h : fs = moF (m.u_nn v)) : (W9 c m o).set 58 (.inr (10, fs)) = W9 c (m.u_nn v) o := by subst h; rfl
theorem rF_Mo_25 : (moF m)[25]? = some (.int (nI m.el)) := rfl
theorem sF_Mo_25 {v : Nat} {x : Int32} (h : x = nI v) : (moF m).set 25 (.int x) = moF (m.u_el v) := by subst h; rfl
theorem sO_Mo_25 {v : Nat} {fs : List Value} (h : fs = moF (m.u_el v)) : (W9 c m o).set 58 (.inr (10, fs)) = W9 c (m.u_el v) o := by subst h; rfl
theorem rF_Mo_26 : (moF m)[26]? = some (.int (nI m.gr)) := rfl
theorem sF_Mo_26 {v : Nat} {x : Int32} (h : x = nI v) : (moF m).set 26 (.int x) = moF (m.u_gr v) := by subst h; rfl
theorem sO_Mo_26 {v : Nat} {fs : List Value} (h : fs = moF (m.u_gr v)) : (W9 c m o).set 58 (.inr (10, fs)) = W9 c (m.u_gr v) o := by subst h; rfl
theorem rF_Mo_27 : (moF m)[27]? = some (.int (nI m.dp)) := rfl
theorem sF_Mo_27 {v : Nat} {x : Int32} (h : x = nI v) : (moF m).set 27 (.int x) = moF (m.u_dp v) := by subst h; rfl
theorem sO_Mo_27 {v : Nat} {fs : List Value} (h : fs = moF (m.u_dp v)) : (W9 c m o).set 58 (.inr (10, fs)) = W9 c (m.u_dp v) o := by subst h; rfl
theorem rF_Mo_28 : (moF m)[28]? = some (.ref 66) := rfl
theorem rF_Mo_29 : (moF m)[29]? = some (.ref 67) := rfl
theorem rF_Mo_30 : (moF m)[30]? = some (.ref 68) := rfl
theorem rF_Mo_31 : (moF m)[31]? = some (.ref 69) := rfl
theorem rF_Mo_32 : (moF m)[32]? = some (.int (nI m.no)) := rfl
theorem sF_Mo_32 {v : Nat} {x : Int32} (h : x = nI v) : (moF m).set 32 (.int x) = moF (m.u_no v) := by subst h; rfl
theorem sO_Mo_32 {v : Nat} {fs : List Value} (h : fs = moF (m.u_no v)) : (W9 c m o).set 58 (.inr (10, fs)) = W9 c (m.u_no v) o := by subst h; rfl
theorem rF_Mo_33 : (moF m)[33]? = some (.ref 70) := rfl
theorem rF_Mo_34 : (moF m)[34]? = some (.ref 71) := rfl
theorem rF_Mo_35 : (moF m)[35]? = some (.int (nI m.np)) := rfl
theorem sF_Mo_35 {v : Nat} {x : Int32} (h : x = nI v) : (moF m).set 35 (.int x) = moF (m.u_np v) := by subst h; rfl
theorem sO_Mo_35 {v : Nat} {fs : List Value} (h : fs = moF (m.u_np v)) : (W9 c m o).set 58 (.inr (10, fs)) = W9 c (m.u_np v) o := by subst h; rfl
theorem rF_Mo_36 : (moF m)[36]? = some (.ref 72) := rfl
theorem rF_Mo_37 : (moF m)[37]? = some (.ref 73) := rfl
theorem rF_Mo_38 : (moF m)[38]? = some (.ref 74) := rfl
theorem rF_Mo_39 : (moF m)[39]? = some (.int (nI m.ne)) := rfl
theorem sF_Mo_39 {v : Nat} {x : Int32} (h : x = nI v) : (moF m).set 39 (.int x) = moF (m.u_ne v) := by subst h; rfl
theorem sO_Mo_39 {v : Nat} {fs : List Value} (h : fs = moF (m.u_ne v)) : (W9 c m o).set 58 (.inr (10, fs)) = W9 c (m.u_ne v) o := by subst h; rfl
theorem rF_Mo_40 : (moF m)[40]? = some (.ref 75) := rfl
theorem rF_Mo_41 : (moF m)[41]? = some (.int (nI m.nw)) := rfl
theorem sF_Mo_41 {v : Nat} {x : Int32} (h : x = nI v) : (moF m).set 41 (.int x) = moF (m.u_nw v) := by subst h; rfl
theorem sO_Mo_41 {v : Nat} {fs : List Value} (h : fs = moF (m.u_nw v)) : (W9 c m o).set 58 (.inr (10, fs)) = W9 c (m.u_nw v) o := by subst h; rfl
theorem rF_Mo_42 : (moF m)[42]? = some (.ref 76) := rfl
theorem rF_Mo_43 : (moF m)[43]? = some (.int (bI m.di)) := rfl
theorem sF_Mo_43 {v : Bool} {x : Int32} (h : x = bI v) : (moF m).set 43 (.int x) = moF (m.u_di v) := by subst h; rfl
theorem sO_Mo_43 {v : Bool} {fs : List Value} (h : fs = moF (m.u_di v)) : (W9 c m o).set 58 (.inr (10, fs)) = W9 c (m.u_di v) o := by subst h; rfl
theorem rF_Mo_44 : (moF m)[44]? = some (.int m.ob) := rfl
theorem sF_Mo_44 {v : Int32} : (moF m).set 44 (.int v) = moF (m.u_ob v) := rfl
theorem sO_Mo_44 {v : Int32} {fs : List Value} (h : fs = moF (m.u_ob v)) : (W9 c m o).set 58 (.inr (10, fs)) = W9 c (m.u_ob v) o := by subst h; rfl
theorem rF_Mo_45 : (moF m)[45]? = some (.int (bI m.fl)) := rfl
theorem sF_Mo_45 {v : Bool} {x : Int32} (h : x = bI v) : (moF m).set 45 (.int x) = moF (m.u_fl v) := by subst h; rfl
theorem sO_Mo_45 {v : Bool} {fs : List Value} (h : fs = moF (m.u_fl v)) : (W9 c m o).set 58 (.inr (10, fs)) = W9 c (m.u_fl v) o := by subst h; rfl
theorem rF_Mo_46 : (moF m)[46]? = some (.int m.li) := rfl
theorem sF_Mo_46 {v : Int32} : (moF m).set 46 (.int v) = moF (m.u_li v) := rfl
theorem sO_Mo_46 {v : Int32} {fs : List Value} (h : fs = moF (m.u_li v)) : (W9 c m o).set 58 (.inr (10, fs)) = W9 c (m.u_li v) o := by subst h; rfl
theorem rF_Mo_47 : (moF m)[47]? = some (.ref 77) := rfl
theorem rF_Mo_48 : (moF m)[48]? = some (.ref 78) := rfl
theorem rF_Mo_49 : (moF m)[49]? = some (.ref 79) := rfl
theorem rF_Mo_50 : (moF m)[50]? = some (.int (nI m.tp)) := rfl
theorem sF_Mo_50 {v : Nat} {x : Int32} (h : x = nI v) : (moF m).set 50 (.int x) = moF (m.u_tp v) := by subst h; rfl
theorem sO_Mo_50 {v : Nat} {fs : List Value} (h : fs = moF (m.u_tp v)) : (W9 c m o).set 58 (.inr (10, fs)) = W9 c (m.u_tp v) o := by subst h; rfl
theorem rF_Mo_51 : (moF m)[51]? = some (.int (bI m.tm)) := rfl
theorem sF_Mo_51 {v : Bool} {x : Int32} (h : x = bI v) : (moF m).set 51 (.int x) = moF (m.u_tm v) := by subst h; rfl
theorem sO_Mo_51 {v : Bool} {fs : List Value} (h : fs = moF (m.u_tm v)) : (W9 c m o).set 58 (.inr (10, fs)) = W9 c (m.u_tm v) o := by subst h; rfl
theorem rF_Mo_52 : (moF m)[52]? = some (.ref 80) := rfl
theorem rF_Mo_53 : (moF m)[53]? = some (.ref 81) := rfl
theorem rF_Mo_54 : (moF m)[54]? = some (.ref 82) := rfl
theorem rF_Mo_55 : (moF m)[55]? = some (.int (nI m.nr)) := rfl
theorem sF_Mo_55 {v : Nat} {x : Int32} (h : x = nI v) : (moF m).set 55 (.int x) = moF (m.u_nr v) := by subst h; rfl
theorem sO_Mo_55 {v : Nat} {fs : List Value} (h : fs = moF (m.u_nr v)) : (W9 c m o).set 58 (.inr (10, fs)) = W9 c (m.u_nr v) o := by subst h; rfl
theorem rF_Mo_56 : (moF m)[56]? = some (.ref 83) := rfl
theorem rF_Mo_57 : (moF m)[57]? = some (.int (nI m.nl)) := rfl
theorem sF_Mo_57 {v : Nat} {x : Int32} (h : x = nI v) : (moF m).set 57 (.int x) = moF (m.u_nl v) := by subst h; rfl
theorem sO_Mo_57 {v : Nat} {fs : List Value} (h : fs = moF (m.u_nl v)) : (W9 c m o).set 58 (.inr (10, fs)) = W9 c (m.u_nl v) o := by subst h; rfl
theorem rF_Mo_58 : (moF m)[58]? = some (.int (nI m.cd)) := rfl
theorem sF_Mo_58 {v : Nat} {x : Int32} (h : x = nI v) : (moF m).set 58 (.int x) = moF (m.u_cd v) := by subst h; rfl
theorem sO_Mo_58 {v : Nat} {fs : List Value} (h : fs = moF (m.u_cd v)) : (W9 c m o).set 58 (.inr (10, fs)) = W9 c (m.u_cd v) o := by subst h; rfl
theorem rF_T1_0 : (t1F c)[0]? = some (.ref 3) := rfl
theorem rF_T1_1 : (t1F c)[1]? = some (.ref 4) := rfl
theorem rF_T1_2 : (t1F c)[2]? = some (.ref 5) := rfl
theorem rF_T1_3 : (t1F c)[3]? = some (.int (nI c.tn)) := rfl
theorem sF_T1_3 {v : Nat} {x : Int32} (h : x = nI v) : (t1F c).set 3 (.int x) = t1F (c.u_tn v) := by subst h; rfl
theorem sO_T1_3 {v : Nat} {fs : List Value} (h : fs = t1F (c.u_tn v)) : (W9 c m o).set 2 (.inr (8, fs)) = W9 (c.u_tn v) m o := by subst h; rfl
theorem rF_T2_0 : (t2F c)[0]? = some (.ref 7) := rfl
theorem rF_T2_1 : (t2F c)[1]? = some (.ref 8) := rfl
theorem rF_T2_2 : (t2F c)[2]? = some (.ref 9) := rfl
theorem rF_T2_3 : (t2F c)[3]? = some (.int (nI c.gn)) := rfl
theorem sF_T2_3 {v : Nat} {x : Int32} (h : x = nI v) : (t2F c).set 3 (.int x) = t2F (c.u_gn v) := by subst h; rfl
theorem sO_T2_3 {v : Nat} {fs : List Value} (h : fs = t2F (c.u_gn v)) : (W9 c m o).set 6 (.inr (8, fs)) = W9 (c.u_gn v) m o := by subst h; rfl
theorem sA_12 {g : Nat → Int32} : (W9 c m o).set 12 (.inl (2, 160, .inl g)) = W9 (c.u_tx g) m o := rfl
theorem sA_10 {g : Nat → Bool} {v : Nat → Int32} (h : v = fun i => bI (g i)) : (W9 c m o).set 10 (.inl (3, 512, .inl v)) = W9 (c.u_si g) m o := by subst h; rfl
theorem sA_11 {g : Nat → Int32} : (W9 c m o).set 11 (.inl (0, 512, .inl g)) = W9 (c.u_sx g) m o := rfl
theorem sA_14 {g : Nat → Int32} : (W9 c m o).set 14 (.inl (0, 161, .inl g)) = W9 (c.u_kk g) m o := rfl
theorem sA_15 {g : Nat → Int64} : (W9 c m o).set 15 (.inl (1, 161, .inr (.inl g))) = W9 (c.u_kv g) m o := rfl
theorem sA_16 {g : Nat → Int32} : (W9 c m o).set 16 (.inl (0, 161, .inl g)) = W9 (c.u_kp g) m o := rfl
theorem sA_18 {g : Nat → Int64} : (W9 c m o).set 18 (.inl (1, 6, .inr (.inl g))) = W9 (c.u_qn g) m o := rfl
theorem sA_19 {g : Nat → Int32} : (W9 c m o).set 19 (.inl (0, 6, .inl g)) = W9 (c.u_qs g) m o := rfl
theorem sA_20 {g : Nat → Option Nat} : (W9 c m o).set 20 (.inl (4, 12, .inr (.inr (.inr (.inr g))))) = W9 (c.u_qx g) m o := rfl
theorem sA_21 {g : Nat → Int32} : (W9 c m o).set 21 (.inl (0, 145, .inl g)) = W9 (c.u_qh g) m o := rfl
theorem sA_36 {g : Nat → Option Nat} : (W9 c m o).set 36 (.inl (5, 4, .inr (.inr (.inr (.inr g))))) = W9 (c.u_vf g) m o := rfl
theorem sA_37 {g : Nat → Option Nat} : (W9 c m o).set 37 (.inl (5, 4, .inr (.inr (.inr (.inr g))))) = W9 (c.u_vn g) m o := rfl
theorem sA_38 {g : Nat → Int64} : (W9 c m o).set 38 (.inl (1, 6, .inr (.inl g))) = W9 (c.u_vd g) m o := rfl
theorem sA_56 {g : Nat → Int64} : (W9 c m o).set 56 (.inl (1, 900, .inr (.inl g))) = W9 (c.u_rt g) m o := rfl
theorem sA_57 {g : Nat → Int32} : (W9 c m o).set 57 (.inl (0, 150, .inl g)) = W9 (c.u_ro g) m o := rfl
theorem sA_59 {g : Nat → Int64} : (W9 c m o).set 59 (.inl (1, 144, .inr (.inl g))) = W9 c (m.u_tr g) o := rfl
theorem sA_60 {g : Nat → Int64} : (W9 c m o).set 60 (.inl (1, 144, .inr (.inl g))) = W9 c (m.u_kt g) o := rfl
theorem sA_61 {g : Nat → Int64} : (W9 c m o).set 61 (.inl (1, 2400, .inr (.inl g))) = W9 c (m.u_ch g) o := rfl
theorem sA_62 {g : Nat → Bool} {v : Nat → Int32} (h : v = fun i => bI (g i)) : (W9 c m o).set 62 (.inl (3, 800, .inl v)) = W9 c (m.u_pt g) o := by subst h; rfl
theorem sA_63 {g : Nat → Int32} : (W9 c m o).set 63 (.inl (0, 800, .inl g)) = W9 c (m.u_fo g) o := rfl
theorem sA_64 {g : Nat → Int32} : (W9 c m o).set 64 (.inl (0, 160, .inl g)) = W9 c (m.u_tx g) o := rfl
theorem sA_65 {g : Nat → Int64} : (W9 c m o).set 65 (.inl (1, 6, .inr (.inl g))) = W9 c (m.u_nm g) o := rfl
theorem sA_66 {g : Nat → Int32} : (W9 c m o).set 66 (.inl (0, 5, .inl g)) = W9 c (m.u_gk g) o := rfl
theorem sA_67 {g : Nat → Int32} : (W9 c m o).set 67 (.inl (0, 5, .inl g)) = W9 c (m.u_gi g) o := rfl
theorem sA_68 {g : Nat → Int32} : (W9 c m o).set 68 (.inl (0, 400, .inl g)) = W9 c (m.u_oo g) o := rfl
theorem sA_69 {g : Nat → Int32} : (W9 c m o).set 69 (.inl (0, 400, .inl g)) = W9 c (m.u_ar g) o := rfl
theorem sA_70 {g : Nat → Int32} : (W9 c m o).set 70 (.inl (0, 120, .inl g)) = W9 c (m.u_sd g) o := rfl
theorem sA_71 {g : Nat → Int64} : (W9 c m o).set 71 (.inl (1, 120, .inr (.inl g))) = W9 c (m.u_te g) o := rfl
theorem sA_72 {g : Nat → Int32} : (W9 c m o).set 72 (.inl (0, 14, .inl g)) = W9 c (m.u_tg g) o := rfl
theorem sA_73 {g : Nat → Int32} : (W9 c m o).set 73 (.inl (0, 14, .inl g)) = W9 c (m.u_ts g) o := rfl
theorem sA_74 {g : Nat → Bool} {v : Nat → Int32} (h : v = fun i => bI (g i)) : (W9 c m o).set 74 (.inl (3, 14, .inl v)) = W9 c (m.u_tn g) o := by subst h; rfl
theorem sA_75 {g : Nat → Int32} : (W9 c m o).set 75 (.inl (0, 80, .inl g)) = W9 c (m.u_wa g) o := rfl
theorem sA_76 {g : Nat → Int32} : (W9 c m o).set 76 (.inl (0, 5, .inl g)) = W9 c (m.u_bs g) o := rfl
theorem sA_77 {g : Nat → Int64} : (W9 c m o).set 77 (.inl (1, 9900, .inr (.inl g))) = W9 c (m.u_va g) o := rfl
theorem sA_78 {g : Nat → Int32} : (W9 c m o).set 78 (.inl (0, 1650, .inl g)) = W9 c (m.u_gv g) o := rfl
theorem sA_79 {g : Nat → Int32} : (W9 c m o).set 79 (.inl (0, 11, .inl g)) = W9 c (m.u_sz g) o := rfl
theorem sA_80 {g : Nat → Int64} : (W9 c m o).set 80 (.inl (1, 900, .inr (.inl g))) = W9 c (m.u_ro g) o := rfl
theorem sA_81 {g : Nat → Int32} : (W9 c m o).set 81 (.inl (0, 150, .inl g)) = W9 c (m.u_rg g) o := rfl
theorem sA_82 {g : Nat → Int32} : (W9 c m o).set 82 (.inl (0, 150, .inl g)) = W9 c (m.u_ra g) o := rfl
theorem sA_83 {g : Nat → Int32} : (W9 c m o).set 83 (.inl (0, 80, .inl g)) = W9 c (m.u_co g) o := rfl
theorem sA_3 {g : Nat → Int64} : (W9 c m o).set 3 (.inl (1, 48, .inr (.inl g))) = W9 (c.u_ta g) m o := rfl
theorem sA_4 {g : Nat → Int64} : (W9 c m o).set 4 (.inl (1, 48, .inr (.inl g))) = W9 (c.u_tb g) m o := rfl
theorem sA_5 {g : Nat → Int64} : (W9 c m o).set 5 (.inl (1, 48, .inr (.inl g))) = W9 (c.u_tc g) m o := rfl
theorem sA_7 {g : Nat → Int64} : (W9 c m o).set 7 (.inl (1, 512, .inr (.inl g))) = W9 (c.u_ga g) m o := rfl
theorem sA_8 {g : Nat → Int64} : (W9 c m o).set 8 (.inl (1, 512, .inr (.inl g))) = W9 (c.u_gb g) m o := rfl
theorem sA_9 {g : Nat → Int64} : (W9 c m o).set 9 (.inl (1, 512, .inr (.inl g))) = W9 (c.u_gc g) m o := rfl
theorem sA_84 {g : Nat → Int64} : (W9 c m o).set 84 (.inl (1, 1, .inr (.inl g))) = W9 c m g := rfl
theorem W9_len : (W9 c m o).length = 85 := rfl
end W9
/-- behind a method of the reference: class and out are as they were -/
def qM (c : CS) (o : Nat → Int64) (Q : Option Value → MS → Prop) : Option Value → List mC → Prop := fun r M' => ∃ m', Q r m' ∧ M' = W9 c m' o
def qC (m : MS) (o : Nat → Int64) (Q : Option Value → CS → Prop) : Option Value → List mC → Prop := fun r M' => ∃ c', Q r c' ∧ M' = W9 c' m o
theorem qM_len {c c2 : CS} {m : MS} {o o2 : Nat → Int64} {Q : Option Value → MS → Prop} {r : Option Value} {M' : List mC} (h : qM c2 o2 Q r M') : M'.length = (W9 c m o).length := by
  obtain ⟨m', -, rfl⟩ := h
  rfl
theorem qC_len {c : CS} {m m2 : MS} {o o2 : Nat → Int64} {Q : Option Value → CS → Prop} {r : Option Value} {M' : List mC} (h : qC m2 o2 Q r M') : M'.length = (W9 c m o).length := by
  obtain ⟨c', -, rfl⟩ := h
  rfl
theorem vnz (b : Bool) : vp_nar .boolean (bI b) = bI b := by cases b <;> rfl
theorem upB (f : Nat → Bool) (k : Nat) (b : Bool) : upd (fun i => bI (f i)) k (vp_nar .boolean (bI b)) = fun i => bI (va_up f k b i) := by
  funext i
  unfold upd va_up
  split
  · exact vnz b
  · rfl
theorem vin {x : Int32} {i N : Nat} (h : x = nI i) (hi : i < N) (hN : N < 2 ^ 31) : vp_in x N := by
  subst h
  exact vp_in_nI hi hN
theorem mm_imp {l : Launch} {y : MethodName} {ws : List Cond} {rm : Room} {As : List Value} {M : List mC} {post post2 : Option Value → List mC → Prop} (h : mm_ l y ws rm As M post) (hi : ∀ r M', post r M' → post2 r M') : mm_ l y ws rm As M post2 := by
  intro D tc ad sz p e h1 h2 h3 s m args below h4 h5 h6 h7
  obtain ⟨n, oc, a1, a2, a3, ⟨⟨⟨r, M', ad', b1, b2, b3⟩, b4⟩, b5⟩⟩ := h D tc ad sz p e h1 h2 h3 s m args below h4 h5 h6 h7
  exact ⟨n, oc, a1, a2, a3, ⟨⟨r, M', ad', b1, hi r M' b2, b3⟩, b4⟩, b5⟩
