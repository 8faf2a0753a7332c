def fX6_met (PN : PV) : UInt64 :=
  (fX4_shareMet PN)
abbrev rmX6_met : Room := { frames := 5, cells := 0, slots := 0, locals := 130 }
set_option maxHeartbeats 4000000 in
set_option maxRecDepth 100000 in
theorem mX6_met (l : Launch) (dC : Nat → ClassId) (dI : Nat → Nat → Nat) (cI cP : ClassId) (a0 : Nat) (aN aT aS : Nat → Nat) (t0 t1 t2 h0 h1 : Nat) (pa : Nat → Nat → Nat) (PN PT PS : PV) (f : Nat → Int32) (u : Int32) (Ps : Nat → PV) (oh vh : Nat) (k : Int32) (hG : IN (PN 10 0) 16) : Met l yX6_met (ws_ yX6_met cX6_met 1 (some .double)) rmX6_met (pcR (dC, dI) [(cI, .int), (cP, .object "SupperSeats$Plan")] (fW cI cP a0 aN aT aS t0 t1 t2 h0 h1 pa PN PT PS f u Ps oh vh k) [.ref a0]) (vp_Sd (fun r => r = fX6_met PN)) 0 0 (fun _ => False) := by
  refine Met.ofW (cc := cX6_met) (maxL := 1) (ret := (some .double)) (by decide) rfl ?_
  intro p e s m args below meth c s₁ B hml hv
  obtain ⟨ha, hP, hK, hn⟩ := hv
  have hx := B.exec
  have hb := B.bytes
  have hr := B.returns
  have hts0 := atoms_spec (ws := (ws_ yX6_met cX6_met 1 (some .double))) B.pre
  have hts : ∀ w ∈ lw_all, w.before args s = true := fun w h => hts0 w (List.mem_cons_of_mem _ h)
  have hown : s.vm.findClass RX6 = some m.cls := findClass_of_methodNamed B.named
  have hlocks := B.notSynchronized
  have htX6 : ∀ w ∈ wsX60, w.before args s = true := fun w h => hts w (wX6 w h)
  obtain ⟨Q, hQ⟩ : ∃ Q, Q = MQ below (vp_Sd (fun r => r = fX6_met PN)) args s 0 0 (fun _ => False) := ⟨_, rfl⟩
  rw [← hQ]
  have hl := lv_entry ([.ref a0]) (n := 1) (Nat.le_of_ble_eq_true rfl)
  rw [ha, lg_entry_eq, ← ha]
  generalize (lg_sl ([.ref a0]) ++ List.replicate (1 - (lg_sl ([.ref a0])).length) Slot.unset).toArray = ls at hl ⊢
  have hl : lv_has ls 1 [(0, .ref a0)] := hl
  show W p l e rmX6_met s m args below meth c s.heap [] 0 0 Q (F0 m 0 ls [])
  have hF : fX6_met PN = fX6_met PN := rfl
  refine lv_aload_n hx hb dX6_met_0 rfl (lv_at hl 0 rfl) ?_
  refine va_get (D := (dC, dI)) (ci := 4) (v := .ref (aN 0)) (C := RX6) (T := TX6) (N := 6) hx hb htX6 (fun _ h => h) hown hK (fl_at hP 0 rfl) 0 rfl rfl 0 (by decide) (hts _ u_141) (fun _ h9 => h9) rfl dX6_met_1 ?_
  refine k_calld (W.runS (As := [.ref (aN 0)]) (rest := []) ⟨hx, hb, hml, hown, hts0⟩ (mX4_shareMet l dC dI cI aN PN  hG) (va_cwS 1 hts0 (gi_S u_650 u_651 u_12 u_652) rfl rfl rfl (by decide +kernel) ⟨Nat.le_of_ble_eq_true rfl, Nat.le_of_ble_eq_true rfl⟩) (pcR_S (fl_at hP 1 rfl) (hK.sub (tys' := [(cI, .int)]) [0] rfl) hn) rfl rfl hl.1 rfl (lv_room (Nat.le_of_ble_eq_true rfl)) dX6_met_4 ⟨Nat.zero_le _, Nat.zero_le _⟩) ?_
  rw [hQ]
  exact W.dret (v := (fX4_shareMet PN)) hx hb hr (fun t ht hW => ⟨(fX4_shareMet PN), rfl, hF.symm, ht⟩) (fun q hq => absurd hq List.not_mem_nil) dX6_met_7

def fX6_bitsOfShare_b18 (kk18 : Nat) (x18_4 : Int64) (x18_2 : UInt64) (nextkk18 : Int64 → UInt64 → Int64) : Int64 :=
  (if 0 ≤ (Op.cmpValue (FP.dcmp x18_2 FP.dconst1) .g) then ((x18_4 <<< ((52 : Int32).toInt64 &&& 63)) + (FP.d2l (FP.dmul (FP.dsub x18_2 FP.dconst1) 4841369599423283200))) else (nextkk18 (x18_4 - 1) (FP.dmul x18_2 4611686018427387904)))
def fX6_bitsOfShare_r18 (x18_4 : Int64) (x18_2 : UInt64) : Int64 :=
  ((x18_4 <<< ((52 : Int32).toInt64 &&& 63)) + (FP.d2l (FP.dmul (FP.dsub x18_2 FP.dconst1) 4841369599423283200)))
def fX6_bitsOfShare (v : UInt64) : Int64 :=
  (if 0 < (Op.cmpValue (FP.dcmp v FP.dconst0) .g) then (lq2 fX6_bitsOfShare_b18 fX6_bitsOfShare_r18 64 0 1023 v) else 0)
abbrev rmX6_bitsOfShare : Room := { frames := 0, cells := 0, slots := 0, locals := 0 }
def fX6_digest_b103 (PN : PV) (kk103 : Nat) (x103_1 : Int64) (U103_1 : PV) (nextkk103 : Int64 → PV → (Int64 × (PV))) : Int64 × (PV) :=
  (bd2 (fX6_seatedNumber PN U103_1 (nI kk103)) (fun r115 U115 => (nextkk103 ((31 * x103_1) + r115.toInt64) U115)))
def fX6_digest_r103 (PN : PV) (f : Nat → Int32) (u : Int32) (x103_1 : Int64) (U103_1 : PV) : Int64 × (PV) :=
  ((fX6_hashLine 60 f u ((31 * ((31 * x103_1) + (fX6_bitsOfShare (fX4_shareMet PN)))) + (fX1_length 60 f u).toInt64)), U103_1)
def fX6_digest_b6 (PN : PV) (Ps : Nat → PV) (oh : Nat) (vh : Nat) (kk6 : Nat) (x6_1 : Int64) (nextkk6 : Int64 → (Int64 × (PV))) : Int64 × (PV) :=
  (nextkk6 ((31 * x6_1) + (fX6_countNumber PN Ps oh vh (nI kk6)).toInt64))
def fX6_digest_r6 (PN : PV) (PT : PV) (f : Nat → Int32) (u : Int32) (x6_1 : Int64) : Int64 × (PV) :=
  (lq2 (fX6_digest_b103 PN) (fX6_digest_r103 PN f u) ((2 : Int32).toNatClampNeg) 0 ((31 * ((31 * (fX6_hashLine 8 (PN 8) (PN 10 4) (fX6_hashLine 16 (PN 9) (PN 10 5) (fX6_hashTables PN (fX6_hashGuests PN x6_1))))) + (fX2_risersOfFeud PN 0 1).toInt64)) + (fX2_risersOfFeud PN 2 3).toInt64) PT)
def fX6_digest (PN : PV) (PT : PV) (f : Nat → Int32) (u : Int32) (Ps : Nat → PV) (oh : Nat) (vh : Nat) : Int64 × (PV) :=
  (lq1 (fX6_digest_b6 PN Ps oh vh) (fX6_digest_r6 PN PT f u) ((14 : Int32).toNatClampNeg) 0 3719)
abbrev rmX6_digest : Room := { frames := 6, cells := 0, slots := 0, locals := 160 }
