/-! what the law looks for in every state. Mine (rows laid by program). -/
def fL_holds_b508 (PN : PV) (kk413 : Nat) (kk508 : Nat) (x508_5 : Nat) (nextkk508 : Nat → Int32) : Int32 :=
  (bd ((if (nI x508_5) = 0 then 0 else (if (fX1_itemAt 16 (PN 9) (PN 10 5) (nI kk413)) = (-1) then 1 else (if (fX1_itemAt 16 (PN 9) (PN 10 5) (nI kk413)) = (fX1_itemAt 16 (PN 9) (PN 10 5) (nI kk508)) then 0 else 1))) : Nat) (fun v517_0 => (nextkk508 v517_0)))
def fL_holds_r508 (nextkk413 : Nat → Int32) (x508_5 : Nat) : Int32 :=
  (nextkk413 x508_5)
def fL_holds_b413 (PN : PV) (kk413 : Nat) (x413_5 : Nat) (nextkk413 : Nat → Int32) : Int32 :=
  (bd ((if (nI x413_5) = 0 then 0 else (bd ((if (fX1_itemAt 16 (PN 9) (PN 10 5) (nI kk413)) = (-1) then 1 else 0) : Nat) (fun v432_0 => (bd ((if (nI kk413) < (PN 10 5) then 0 else 1) : Nat) (fun v447_0 => (if (nI v432_0) = (nI v447_0) then (if 8 < (nI kk413) then 1 else (bd ((if (fX1_itemAt 8 (PN 8) (PN 10 4) (nI kk413)) = (-1) then 1 else 0) : Nat) (fun v472_0 => (bd ((if (nI kk413) < (PN 10 4) then 0 else 1) : Nat) (fun v487_0 => (if (nI v472_0) = (nI v487_0) then 1 else 0)))))) else 0)))))) : Nat) (fun v422_0 => (lq1 (fL_holds_b508 PN kk413) (fL_holds_r508 nextkk413) ((nI kk413).toNatClampNeg) 0 v422_0)))
def fL_holds_r413 (PN : PV) (x53_3 : Int32) (x53_2 : Int32) (x53_1 : Int32) (x268_4 : Int32) (x413_5 : Nat) : Int32 :=
  (if (nI x413_5) = 0 then 0 else (if x53_1 = (fX4_byGuests PN) then (if x268_4 = x53_1 then (if x53_2 = (fX4_wishesMet PN) then (if x53_3 = (PN 10 5) then (if (Op.cmpValue (FP.dcmp (fX6_met PN) FP.dconst0) .l) < 0 then 0 else (if 0 < (Op.cmpValue (FP.dcmp (fX6_met PN) FP.dconst1) .g) then 0 else 1)) else 0) else 0) else 0) else 0))
def fL_holds_b362 (PN : PV) (kk268 : Nat) (kk362 : Nat) (x362_5 : Nat) (nextkk362 : Nat → Int32) : Int32 :=
  (bd ((if (nI x362_5) = 0 then 0 else (if (fX2_letterOfTable PN (nI kk268) (nI kk362)) = (-1) then 0 else 1)) : Nat) (fun v376_0 => (nextkk362 v376_0)))
def fL_holds_r362 (nextkk268 : Nat → Int32 → Int32) (PN : PV) (kk268 : Nat) (x268_4 : Int32) (x362_5 : Nat) : Int32 :=
  (nextkk268 x362_5 (x268_4 + (fX6_tableNumber PN (nI kk268) 3)))
def fL_holds_b293 (PN : PV) (kk268 : Nat) (kk293 : Nat) (x293_5 : Nat) (nextkk293 : Nat → Int32) : Int32 :=
  (bd ((if (nI x293_5) = 0 then 0 else (if 2 ≤ (fL_bits ((fX6_tableNumber PN (nI kk268) 2) &&& (((1 : Int32) <<< (((fX1_itemAt 8 (PN 8) (PN 10 4) (nI kk293)) / 6) &&& 31)) ||| ((1 : Int32) <<< (((fX1_itemAt 8 (PN 8) (PN 10 4) (nI kk293)) - (fX1_itemAt 8 (PN 8) (PN 10 4) (nI kk293)) / 6 * 6) &&& 31))))) then 0 else 1)) : Nat) (fun v313_0 => (nextkk293 v313_0)))
def fL_holds_r293 (nextkk268 : Nat → Int32 → Int32) (PN : PV) (kk268 : Nat) (x268_4 : Int32) (x293_5 : Nat) : Int32 :=
  (lq1 (fL_holds_b362 PN kk268) (fL_holds_r362 nextkk268 PN kk268 x268_4) ((fX6_tableNumber PN (nI kk268) 0).toNatClampNeg) 0 x293_5)
def fL_holds_b268 (PN : PV) (kk268 : Nat) (x268_5 : Nat) (x268_4 : Int32) (nextkk268 : Nat → Int32 → Int32) : Int32 :=
  (lq1 (fL_holds_b293 PN kk268) (fL_holds_r293 nextkk268 PN kk268 x268_4) ((PN 10 4).toNatClampNeg) 0 x268_5)
def fL_holds_r268 (PN : PV) (x53_3 : Int32) (x53_2 : Int32) (x53_1 : Int32) (x268_5 : Nat) (x268_4 : Int32) : Int32 :=
  (lq1 (fL_holds_b413 PN) (fL_holds_r413 PN x53_3 x53_2 x53_1 x268_4) 16 0 x268_5)
def fL_holds_b53 (PN : PV) (kk53 : Nat) (x53_5 : Nat) (x53_3 : Int32) (x53_2 : Int32) (x53_1 : Int32) (nextkk53 : Nat → Int32 → Int32 → Int32 → Int32) : Int32 :=
  (bd ((if (fX6_guestNumber PN (nI kk53) 5) ≤ 0 then 0 else 1) : Nat) (fun v113_0 => (bd ((if (fX6_guestNumber PN (nI kk53) 3) = (-1) then 0 else 1) : Nat) (fun v127_0 => (bd ((if (nI x53_5) = 0 then 0 else (bd ((if (fX6_guestNumber PN (nI kk53) 3) = (-1) then 1 else 0) : Nat) (fun v145_0 => (bd ((if (fX6_guestNumber PN (nI kk53) 4) = (-1) then 1 else 0) : Nat) (fun v156_0 => (if (nI v145_0) = (nI v156_0) then (if (fX6_guestNumber PN (nI kk53) 3) = (-1) then (if (fX6_guestNumber PN (nI kk53) 6) = 0 then (if (fX6_guestNumber PN (nI kk53) 5) = 0 then (if (fX6_guestNumber PN (nI kk53) 1) < 3 then (if (fX6_guestNumber PN (nI kk53) 5) = 0 then 1 else (if (fX6_guestNumber PN (nI kk53) 2) = (-1) then 0 else (if (fX6_guestNumber PN (nI kk53) 3) = (fX6_guestNumber PN (fX6_guestNumber PN (nI kk53) 2) 3) then 1 else 0))) else (if (fX6_guestNumber PN (nI kk53) 4) = (-1) then (if (fX6_guestNumber PN (nI kk53) 5) = 0 then 1 else (if (fX6_guestNumber PN (nI kk53) 2) = (-1) then 0 else (if (fX6_guestNumber PN (nI kk53) 3) = (fX6_guestNumber PN (fX6_guestNumber PN (nI kk53) 2) 3) then 1 else 0))) else (if ((fX6_guestNumber PN (nI kk53) 4) - (fX6_guestNumber PN (nI kk53) 4) / 3 * 3) ≤ 0 then 0 else (if (fX6_guestNumber PN (nI kk53) 5) = 0 then 1 else (if (fX6_guestNumber PN (nI kk53) 2) = (-1) then 0 else (if (fX6_guestNumber PN (nI kk53) 3) = (fX6_guestNumber PN (fX6_guestNumber PN (nI kk53) 2) 3) then 1 else 0)))))) else 0) else 0) else (if (fX2_holderAt PN (fX6_guestNumber PN (nI kk53) 3) (fX6_guestNumber PN (nI kk53) 4)) = (nI kk53) then (if (fX6_guestNumber PN (nI kk53) 1) < 3 then (if (fX6_guestNumber PN (nI kk53) 5) = 0 then 1 else (if (fX6_guestNumber PN (nI kk53) 2) = (-1) then 0 else (if (fX6_guestNumber PN (nI kk53) 3) = (fX6_guestNumber PN (fX6_guestNumber PN (nI kk53) 2) 3) then 1 else 0))) else (if (fX6_guestNumber PN (nI kk53) 4) = (-1) then (if (fX6_guestNumber PN (nI kk53) 5) = 0 then 1 else (if (fX6_guestNumber PN (nI kk53) 2) = (-1) then 0 else (if (fX6_guestNumber PN (nI kk53) 3) = (fX6_guestNumber PN (fX6_guestNumber PN (nI kk53) 2) 3) then 1 else 0))) else (if ((fX6_guestNumber PN (nI kk53) 4) - (fX6_guestNumber PN (nI kk53) 4) / 3 * 3) ≤ 0 then 0 else (if (fX6_guestNumber PN (nI kk53) 5) = 0 then 1 else (if (fX6_guestNumber PN (nI kk53) 2) = (-1) then 0 else (if (fX6_guestNumber PN (nI kk53) 3) = (fX6_guestNumber PN (fX6_guestNumber PN (nI kk53) 2) 3) then 1 else 0)))))) else 0)) else 0)))))) : Nat) (fun v139_0 => (nextkk53 v139_0 (x53_3 + (nI v127_0)) (x53_2 + (nI v113_0)) (x53_1 + (fX6_guestNumber PN (nI kk53) 6)))))))))
def fL_holds_r53 (PN : PV) (x53_5 : Nat) (x53_3 : Int32) (x53_2 : Int32) (x53_1 : Int32) : Int32 :=
  (lq2 (fL_holds_b268 PN) (fL_holds_r268 PN x53_3 x53_2 x53_1) ((PN 10 1).toNatClampNeg) 0 x53_5 0)
def fL_holds (PN : PV) : Int32 :=
  (bd ((if (fX4_byGuests PN) = (fX4_byTables PN) then (if (PN 10 5) = ((PN 10 2) - (PN 10 3)) then 1 else 0) else 0) : Nat) (fun v19_0 => (lq4 (fL_holds_b53 PN) (fL_holds_r53 PN) ((PN 10 0).toNatClampNeg) 0 v19_0 0 0 0)))
abbrev rmL_holds : Room := { frames := 7, cells := 0, slots := 0, locals := 172 }
set_option maxHeartbeats 4000000 in
set_option maxRecDepth 100000 in
theorem mL_holds (l : Launch) (dC : Nat → ClassId) (dI : Nat → Nat → Nat) (cI cP : ClassId) (a0 : Nat) (aN aT aS : Nat → Nat) (t0 t1 t2 h0 h1 : Nat) (pa : Nat → Nat → Nat) (PN PT PS : PV) (f : Nat → Int32) (u : Int32) (Ps : Nat → PV) (oh vh : Nat) (k : Int32) (f9 : Nat → Int32) (G T : Nat) (L : List Nat) (hR : REL PN f9 0 G T L) : Met l yL_holds (ws_ yL_holds cL_holds 11 (some .boolean)) rmL_holds (pcR (dC, dI) [(cI, .int), (cP, .object "SupperSeats$Plan")] (fW cI cP a0 aN aT aS t0 t1 t2 h0 h1 pa PN PT PS f u Ps oh vh k) [.ref a0]) (vp_Si (fun r => r = fL_holds PN ∧ (r = 0 ∨ r = 1))) 0 0 (fun _ => False) := by
  refine Met.ofW (cc := cL_holds) (maxL := 11) (ret := (some .boolean)) (by decide) rfl ?_
  intro p e s m args below meth c s₁ B hml hv
  obtain ⟨ha, hP, hK, hn⟩ := hv
  have hx := B.exec
  have hb := B.bytes
  have hr := B.returns
  have hts0 := atoms_spec (ws := (ws_ yL_holds cL_holds 11 (some .boolean))) B.pre
  have hts : ∀ w ∈ lw_all, w.before args s = true := fun w h => hts0 w (List.mem_cons_of_mem _ h)
  have hown : s.vm.findClass RL = some m.cls := findClass_of_methodNamed B.named
  have hlocks := B.notSynchronized
  obtain ⟨Q, hQ⟩ : ∃ Q, Q = MQ below (vp_Si (fun r => r = fL_holds PN ∧ (r = 0 ∨ r = 1))) args s 0 0 (fun _ => False) := ⟨_, rfl⟩
  rw [← hQ]
  have hl := lv_entry ([.ref a0]) (n := 11) (Nat.le_of_ble_eq_true rfl)
  rw [ha, lg_entry_eq, ← ha]
  generalize (lg_sl ([.ref a0]) ++ List.replicate (11 - (lg_sl ([.ref a0])).length) Slot.unset).toArray = ls at hl ⊢
  have hl : lv_has ls 11 [(0, .ref a0)] := hl
  show W p l e rmL_holds s m args below meth c s.heap [] 0 0 Q (F0 m 0 ls [])
  have hF : fL_holds PN = fL_holds PN := rfl
  refine lv_iconst (v := 0) hx hb dL_holds_0 (by decide) ?_
  refine lv_istore_n (lv' := [(1, .int 0), (0, .ref a0)]) hx hb dL_holds_1 rfl hl (by decide) rfl (fun ls hl => ?_)
  refine lv_iconst (v := 0) hx hb dL_holds_2 (by decide) ?_
  refine lv_istore_n (lv' := [(2, .int 0), (1, .int 0), (0, .ref a0)]) hx hb dL_holds_3 rfl hl (by decide) rfl (fun ls hl => ?_)
  refine lv_iconst (v := 0) hx hb dL_holds_4 (by decide) ?_
  refine lv_istore_n (lv' := [(3, .int 0), (2, .int 0), (1, .int 0), (0, .ref a0)]) hx hb dL_holds_5 rfl hl (by decide) rfl (fun ls hl => ?_)
  refine lv_iconst (v := 0) hx hb dL_holds_6 (by decide) ?_
  refine lv_istore (lv' := [(4, .int 0), (3, .int 0), (2, .int 0), (1, .int 0), (0, .ref a0)]) hx hb dL_holds_7 hl (by decide) rfl (fun ls hl => ?_)
  refine lv_aload_n hx hb dL_holds_9 rfl (lv_at hl 4 rfl) ?_
  refine lv_iconst (v := 4) hx hb dL_holds_10 (by decide) ?_
  have e_11 : (fX6_count PN Ps oh vh 4) = Sum.inr ((fX4_byGuests PN), ()) := count_4
  refine k_calli (W.runV (As := [.int 4]) (rest := []) ⟨hx, hb, hml, hown, hts0⟩ (mX6_count l dC dI cI cP a0 aN aT aS t0 t1 t2 h0 h1 pa PN PT PS f u Ps oh vh k 4 (ok_inr e_11)) (cwV 1 hts0 (gi_V u_268 u_269 u_270 u_1 u_271) rfl rfl rfl (by decide +kernel) ⟨Nat.le_of_ble_eq_true rfl, Nat.le_of_ble_eq_true rfl⟩) (pcR_V (ci := 4) (q0 := 0) hP hK hn rfl rfl) rfl rfl hl.1 rfl (lv_room (Nat.le_of_ble_eq_true rfl)) dL_holds_11 ⟨Nat.zero_le _, Nat.zero_le _⟩) ?_
  refine lv_tope (y := (fX4_byGuests PN)) (ok1_inr e_11) ?_
  refine lv_aload_n hx hb dL_holds_14 rfl (lv_at hl 4 rfl) ?_
  refine lv_iconst (v := 5) hx hb dL_holds_15 (by decide) ?_
  have e_16 : (fX6_count PN Ps oh vh 5) = Sum.inr ((fX4_byTables PN), ()) := count_5
  refine k_calli (W.runV (As := [.int 5]) (rest := [.int (fX4_byGuests PN)]) ⟨hx, hb, hml, hown, hts0⟩ (mX6_count l dC dI cI cP a0 aN aT aS t0 t1 t2 h0 h1 pa PN PT PS f u Ps oh vh k 5 (ok_inr e_16)) (cwV 1 hts0 (gi_V u_268 u_269 u_270 u_1 u_271) rfl rfl rfl (by decide +kernel) ⟨Nat.le_of_ble_eq_true rfl, Nat.le_of_ble_eq_true rfl⟩) (pcR_V (ci := 4) (q0 := 0) hP hK hn rfl rfl) rfl rfl hl.1 rfl (lv_room (Nat.le_of_ble_eq_true rfl)) dL_holds_16 ⟨Nat.zero_le _, Nat.zero_le _⟩) ?_
  refine lv_tope (y := (fX4_byTables PN)) (ok1_inr e_16) ?_
  have K19 : ∀ (v19_0 : Nat), v19_0 = (if (fX4_byGuests PN) = (fX4_byTables PN) then (if (PN 10 5) = ((PN 10 2) - (PN 10 3)) then 1 else 0) else 0) → ∀ (ls : Array Slot), lv_has ls 11 [(4, .int 0), (3, .int 0), (2, .int 0), (1, .int 0), (0, .ref a0)] → W p l e rmL_holds s m args below meth c s.heap [] 0 0 Q (F0 m 48 ls [.int (nI v19_0)]) := by
    intro v19_0 hz19  ls hl
    have hz := hz19
    have bz19 : (nI v19_0 : Int32) = 0 ∨ nI v19_0 = 1 := by rw [hz]; (try simp only [bd_eq]); (repeat' split); all_goals first | exact Or.inl rfl | exact Or.inr rfl
    have hF := bd_at hF hz
    refine lv_istore (lv' := [(5, .int (nI v19_0)), (4, .int 0), (3, .int 0), (2, .int 0), (1, .int 0), (0, .ref a0)]) hx hb dL_holds_48 hl (by decide) rfl (fun ls hl => ?_)
    refine lv_iconst (v := 0) hx hb dL_holds_50 (by decide) ?_
    refine lv_istore (lv' := [(6, .int 0), (5, .int (nI v19_0)), (4, .int 0), (3, .int 0), (2, .int 0), (1, .int 0), (0, .ref a0)]) hx hb dL_holds_51 hl (by decide) rfl (fun ls hl => ?_)
    have L53 : ∀ (jj53 kk53 : Nat) (x53_5 : Nat) (x53_3 : Int32) (x53_2 : Int32) (x53_1 : Int32), kk53 + jj53 = ((PN 10 0).toNatClampNeg) → fL_holds PN = lq4 (fL_holds_b53 PN) (fL_holds_r53 PN) jj53 kk53 x53_5 x53_3 x53_2 x53_1 → ∀ (ls : Array Slot), lv_has ls 11 [(6, .int (nI kk53)), (5, .int (nI x53_5)), (4, .int 0), (3, .int x53_3), (2, .int x53_2), (1, .int x53_1), (0, .ref a0)] → W p l e rmL_holds s m args below meth c s.heap [] 0 0 Q (F0 m 53 ls []) := by
      intro jj53
      induction jj53 using Nat.strongRecOn with
      | _ jj53 ihkk53 =>
        intro kk53 x53_5 x53_3 x53_2 x53_1 hkkk53 hF  ls hl
        refine lv_iload hx hb dL_holds_53 (lv_at hl 0 rfl) ?_
        refine lv_aload_n hx hb dL_holds_55 rfl (lv_at hl 6 rfl) ?_
        refine lv_iconst (v := 0) hx hb dL_holds_56 (by decide) ?_
        have e_57 : (fX6_count PN Ps oh vh 0) = Sum.inr ((PN 10 0), ()) := count_0
        refine k_calli (W.runV (As := [.int 0]) (rest := [.int (nI kk53)]) ⟨hx, hb, hml, hown, hts0⟩ (mX6_count l dC dI cI cP a0 aN aT aS t0 t1 t2 h0 h1 pa PN PT PS f u Ps oh vh k 0 (ok_inr e_57)) (cwV 1 hts0 (gi_V u_268 u_269 u_270 u_1 u_271) rfl rfl rfl (by decide +kernel) ⟨Nat.le_of_ble_eq_true rfl, Nat.le_of_ble_eq_true rfl⟩) (pcR_V (ci := 4) (q0 := 0) hP hK hn rfl rfl) rfl rfl hl.1 rfl (lv_room (Nat.le_of_ble_eq_true rfl)) dL_holds_57 ⟨Nat.zero_le _, Nat.zero_le _⟩) ?_
        refine lv_tope (y := (PN 10 0)) (ok1_inr e_57) ?_
        refine lv_icmp_ge (tgt := 265) hx hb dL_holds_60 (by decide) (fun c_60 => ?_) (fun c_60 => ?_)
        · obtain rfl := cn_exit hkkk53 c_60
          have hF := hF.trans (lq4_z _ _ _ _ _ _ _)
          refine lv_iconst (v := 0) hx hb dL_holds_265 (by decide) ?_
          refine lv_istore (lv' := [(6, .int 0), (5, .int (nI x53_5)), (4, .int 0), (3, .int x53_3), (2, .int x53_2), (1, .int x53_1), (0, .ref a0)]) hx hb dL_holds_266 hl (by decide) rfl (fun ls hl => ?_)
          have L268 : ∀ (jj268 kk268 : Nat) (x268_5 : Nat) (x268_4 : Int32), kk268 + jj268 = ((PN 10 1).toNatClampNeg) → fL_holds PN = lq2 (fL_holds_b268 PN) (fL_holds_r268 PN x53_3 x53_2 x53_1) jj268 kk268 x268_5 x268_4 → ∀ (ls : Array Slot), lv_has ls 11 [(6, .int (nI kk268)), (5, .int (nI x268_5)), (4, .int x268_4), (3, .int x53_3), (2, .int x53_2), (1, .int x53_1), (0, .ref a0)] → W p l e rmL_holds s m args below meth c s.heap [] 0 0 Q (F0 m 268 ls []) := by
            intro jj268
            induction jj268 using Nat.strongRecOn with
            | _ jj268 ihkk268 =>
              intro kk268 x268_5 x268_4 hkkk268 hF  ls hl
              refine lv_iload hx hb dL_holds_268 (lv_at hl 0 rfl) ?_
              refine lv_aload_n hx hb dL_holds_270 rfl (lv_at hl 6 rfl) ?_
              refine lv_iconst (v := 1) hx hb dL_holds_271 (by decide) ?_
              have e_272 : (fX6_count PN Ps oh vh 1) = Sum.inr ((PN 10 1), ()) := count_1
              refine k_calli (W.runV (As := [.int 1]) (rest := [.int (nI kk268)]) ⟨hx, hb, hml, hown, hts0⟩ (mX6_count l dC dI cI cP a0 aN aT aS t0 t1 t2 h0 h1 pa PN PT PS f u Ps oh vh k 1 (ok_inr e_272)) (cwV 1 hts0 (gi_V u_268 u_269 u_270 u_1 u_271) rfl rfl rfl (by decide +kernel) ⟨Nat.le_of_ble_eq_true rfl, Nat.le_of_ble_eq_true rfl⟩) (pcR_V (ci := 4) (q0 := 0) hP hK hn rfl rfl) rfl rfl hl.1 rfl (lv_room (Nat.le_of_ble_eq_true rfl)) dL_holds_272 ⟨Nat.zero_le _, Nat.zero_le _⟩) ?_
              refine lv_tope (y := (PN 10 1)) (ok1_inr e_272) ?_
              refine lv_icmp_ge (tgt := 410) hx hb dL_holds_275 (by decide) (fun c_275 => ?_) (fun c_275 => ?_)
              · obtain rfl := cn_exit hkkk268 c_275
                have hF := hF.trans (lq2_z _ _ _ _ _)
                refine lv_iconst (v := 0) hx hb dL_holds_410 (by decide) ?_
                refine lv_istore (lv' := [(6, .int 0), (5, .int (nI x268_5)), (4, .int x268_4), (3, .int x53_3), (2, .int x53_2), (1, .int x53_1), (0, .ref a0)]) hx hb dL_holds_411 hl (by decide) rfl (fun ls hl => ?_)
                have L413 : ∀ (jj413 kk413 : Nat) (x413_5 : Nat), kk413 + jj413 = 16 → fL_holds PN = lq1 (fL_holds_b413 PN) (fL_holds_r413 PN x53_3 x53_2 x53_1 x268_4) jj413 kk413 x413_5 → ∀ (ls : Array Slot), lv_has ls 11 [(6, .int (nI kk413)), (5, .int (nI x413_5)), (4, .int x268_4), (3, .int x53_3), (2, .int x53_2), (1, .int x53_1), (0, .ref a0)] → W p l e rmL_holds s m args below meth c s.heap [] 0 0 Q (F0 m 413 ls []) := by
                  intro jj413
                  induction jj413 using Nat.strongRecOn with
                  | _ jj413 ihkk413 =>
                    intro kk413 x413_5 hkkk413 hF  ls hl
                    refine lv_iload hx hb dL_holds_413 (lv_at hl 0 rfl) ?_
                    refine lv_bipush (v := 16) hx hb dL_holds_415 (by decide) ?_
                    refine lv_icmp_ge (tgt := 564) hx hb dL_holds_417 (by decide) (fun c_417 => ?_) (fun c_417 => ?_)
                    · obtain rfl := cn_exitN (N := 16) hkkk413 (by decide) c_417
                      have hF := hF.trans (lq1_z _ _ _ _)
                      refine lv_iload hx hb dL_holds_564 (lv_at hl 1 rfl) ?_
                      refine lv_if_eq (tgt := 625) hx hb dL_holds_566 (by decide) (fun c_566 => ?_) (fun c_566 => ?_)
                      · have hF := hF.trans (if_pos c_566)
                        refine lv_iconst (v := 0) hx hb dL_holds_625 (by decide) ?_
                        rw [hQ]
                        exact W.zret (ty := .boolean) (v := 0) hx hb hr rfl (fun t ht hW => ⟨0, rfl, ⟨hF.symm, Or.inl rfl⟩, ht⟩) (fun q hq => absurd hq List.not_mem_nil) dL_holds_626
                      have hF := hF.trans (if_neg c_566)
                      refine lv_iload_n hx hb dL_holds_569 rfl (lv_at hl 5 rfl) ?_
                      refine lv_aload_n hx hb dL_holds_570 rfl (lv_at hl 6 rfl) ?_
                      refine lv_iconst (v := 4) hx hb dL_holds_571 (by decide) ?_
                      have e_572 : (fX6_count PN Ps oh vh 4) = Sum.inr ((fX4_byGuests PN), ()) := count_4
                      refine k_calli (W.runV (As := [.int 4]) (rest := [.int x53_1]) ⟨hx, hb, hml, hown, hts0⟩ (mX6_count l dC dI cI cP a0 aN aT aS t0 t1 t2 h0 h1 pa PN PT PS f u Ps oh vh k 4 (ok_inr e_572)) (cwV 1 hts0 (gi_V u_268 u_269 u_270 u_1 u_271) rfl rfl rfl (by decide +kernel) ⟨Nat.le_of_ble_eq_true rfl, Nat.le_of_ble_eq_true rfl⟩) (pcR_V (ci := 4) (q0 := 0) hP hK hn rfl rfl) rfl rfl hl.1 rfl (lv_room (Nat.le_of_ble_eq_true rfl)) dL_holds_572 ⟨Nat.zero_le _, Nat.zero_le _⟩) ?_
                      refine lv_tope (y := (fX4_byGuests PN)) (ok1_inr e_572) ?_
                      refine lv_icmp_ne (tgt := 625) hx hb dL_holds_575 (by decide) (fun c_575 => ?_) (fun c_575 => ?_)
                      · have hF := hF.trans (if_neg c_575)
                        refine lv_iconst (v := 0) hx hb dL_holds_625 (by decide) ?_
                        rw [hQ]
                        exact W.zret (ty := .boolean) (v := 0) hx hb hr rfl (fun t ht hW => ⟨0, rfl, ⟨hF.symm, Or.inl rfl⟩, ht⟩) (fun q hq => absurd hq List.not_mem_nil) dL_holds_626
                      have hF := hF.trans (if_pos c_575)
                      refine lv_iload hx hb dL_holds_578 (lv_at hl 2 rfl) ?_
                      refine lv_iload_n hx hb dL_holds_580 rfl (lv_at hl 5 rfl) ?_
                      refine lv_icmp_ne (tgt := 625) hx hb dL_holds_581 (by decide) (fun c_581 => ?_) (fun c_581 => ?_)
                      · have hF := hF.trans (if_neg c_581)
                        refine lv_iconst (v := 0) hx hb dL_holds_625 (by decide) ?_
                        rw [hQ]
                        exact W.zret (ty := .boolean) (v := 0) hx hb hr rfl (fun t ht hW => ⟨0, rfl, ⟨hF.symm, Or.inl rfl⟩, ht⟩) (fun q hq => absurd hq List.not_mem_nil) dL_holds_626
                      have hF := hF.trans (if_pos c_581)
                      refine lv_iload_n hx hb dL_holds_584 rfl (lv_at hl 4 rfl) ?_
                      refine lv_aload_n hx hb dL_holds_585 rfl (lv_at hl 6 rfl) ?_
                      refine lv_bipush (v := 6) hx hb dL_holds_586 (by decide) ?_
                      have e_588 : (fX6_count PN Ps oh vh 6) = Sum.inr ((fX4_wishesMet PN), ()) := count_6
                      refine k_calli (W.runV (As := [.int 6]) (rest := [.int x53_2]) ⟨hx, hb, hml, hown, hts0⟩ (mX6_count l dC dI cI cP a0 aN aT aS t0 t1 t2 h0 h1 pa PN PT PS f u Ps oh vh k 6 (ok_inr e_588)) (cwV 1 hts0 (gi_V u_268 u_269 u_270 u_1 u_271) rfl rfl rfl (by decide +kernel) ⟨Nat.le_of_ble_eq_true rfl, Nat.le_of_ble_eq_true rfl⟩) (pcR_V (ci := 4) (q0 := 0) hP hK hn rfl rfl) rfl rfl hl.1 rfl (lv_room (Nat.le_of_ble_eq_true rfl)) dL_holds_588 ⟨Nat.zero_le _, Nat.zero_le _⟩) ?_
                      refine lv_tope (y := (fX4_wishesMet PN)) (ok1_inr e_588) ?_
                      refine lv_icmp_ne (tgt := 625) hx hb dL_holds_591 (by decide) (fun c_591 => ?_) (fun c_591 => ?_)
                      · have hF := hF.trans (if_neg c_591)
                        refine lv_iconst (v := 0) hx hb dL_holds_625 (by decide) ?_
                        rw [hQ]
                        exact W.zret (ty := .boolean) (v := 0) hx hb hr rfl (fun t ht hW => ⟨0, rfl, ⟨hF.symm, Or.inl rfl⟩, ht⟩) (fun q hq => absurd hq List.not_mem_nil) dL_holds_626
                      have hF := hF.trans (if_pos c_591)
                      refine lv_iload_n hx hb dL_holds_594 rfl (lv_at hl 3 rfl) ?_
                      refine lv_aload_n hx hb dL_holds_595 rfl (lv_at hl 6 rfl) ?_
                      refine lv_iconst (v := 3) hx hb dL_holds_596 (by decide) ?_
                      have e_597 : (fX6_count PN Ps oh vh 3) = Sum.inr ((PN 10 5), ()) := count_3
                      refine k_calli (W.runV (As := [.int 3]) (rest := [.int x53_3]) ⟨hx, hb, hml, hown, hts0⟩ (mX6_count l dC dI cI cP a0 aN aT aS t0 t1 t2 h0 h1 pa PN PT PS f u Ps oh vh k 3 (ok_inr e_597)) (cwV 1 hts0 (gi_V u_268 u_269 u_270 u_1 u_271) rfl rfl rfl (by decide +kernel) ⟨Nat.le_of_ble_eq_true rfl, Nat.le_of_ble_eq_true rfl⟩) (pcR_V (ci := 4) (q0 := 0) hP hK hn rfl rfl) rfl rfl hl.1 rfl (lv_room (Nat.le_of_ble_eq_true rfl)) dL_holds_597 ⟨Nat.zero_le _, Nat.zero_le _⟩) ?_
                      refine lv_tope (y := (PN 10 5)) (ok1_inr e_597) ?_
                      refine lv_icmp_ne (tgt := 625) hx hb dL_holds_600 (by decide) (fun c_600 => ?_) (fun c_600 => ?_)
                      · have hF := hF.trans (if_neg c_600)
                        refine lv_iconst (v := 0) hx hb dL_holds_625 (by decide) ?_
                        rw [hQ]
                        exact W.zret (ty := .boolean) (v := 0) hx hb hr rfl (fun t ht hW => ⟨0, rfl, ⟨hF.symm, Or.inl rfl⟩, ht⟩) (fun q hq => absurd hq List.not_mem_nil) dL_holds_626
                      have hF := hF.trans (if_pos c_600)
                      refine lv_aload_n hx hb dL_holds_603 rfl (lv_at hl 6 rfl) ?_
                      refine k_calld (W.runV (As := []) (rest := []) ⟨hx, hb, hml, hown, hts0⟩ (mX6_met l dC dI cI cP a0 aN aT aS t0 t1 t2 h0 h1 pa PN PT PS f u Ps oh vh k  (in16 hR)) (cwV 0 hts0 (gi_V u_646 u_647 u_648 u_1 u_649) rfl rfl rfl (by decide +kernel) ⟨Nat.le_of_ble_eq_true rfl, Nat.le_of_ble_eq_true rfl⟩) (pcR_V (ci := 4) (q0 := 0) hP hK hn rfl rfl) rfl rfl hl.1 rfl (lv_room (Nat.le_of_ble_eq_true rfl)) dL_holds_604 ⟨Nat.zero_le _, Nat.zero_le _⟩) ?_
                      refine lv_dconst0 hx hb dL_holds_607 ?_
                      refine lv_dcmp hx hb dL_holds_608 ?_
                      refine lv_if_lt (tgt := 625) hx hb dL_holds_609 (by decide) (fun c_609 => ?_) (fun c_609 => ?_)
                      · have hF := hF.trans (if_pos c_609)
                        refine lv_iconst (v := 0) hx hb dL_holds_625 (by decide) ?_
                        rw [hQ]
                        exact W.zret (ty := .boolean) (v := 0) hx hb hr rfl (fun t ht hW => ⟨0, rfl, ⟨hF.symm, Or.inl rfl⟩, ht⟩) (fun q hq => absurd hq List.not_mem_nil) dL_holds_626
                      have hF := hF.trans (if_neg c_609)
                      refine lv_aload_n hx hb dL_holds_612 rfl (lv_at hl 6 rfl) ?_
                      refine k_calld (W.runV (As := []) (rest := []) ⟨hx, hb, hml, hown, hts0⟩ (mX6_met l dC dI cI cP a0 aN aT aS t0 t1 t2 h0 h1 pa PN PT PS f u Ps oh vh k  (in16 hR)) (cwV 0 hts0 (gi_V u_646 u_647 u_648 u_1 u_649) rfl rfl rfl (by decide +kernel) ⟨Nat.le_of_ble_eq_true rfl, Nat.le_of_ble_eq_true rfl⟩) (pcR_V (ci := 4) (q0 := 0) hP hK hn rfl rfl) rfl rfl hl.1 rfl (lv_room (Nat.le_of_ble_eq_true rfl)) dL_holds_613 ⟨Nat.zero_le _, Nat.zero_le _⟩) ?_
                      refine lv_dconst1 hx hb dL_holds_616 ?_
                      refine lv_dcmp hx hb dL_holds_617 ?_
                      refine lv_if_gt (tgt := 625) hx hb dL_holds_618 (by decide) (fun c_618 => ?_) (fun c_618 => ?_)
                      · have hF := hF.trans (if_pos c_618)
                        refine lv_iconst (v := 0) hx hb dL_holds_625 (by decide) ?_
                        rw [hQ]
                        exact W.zret (ty := .boolean) (v := 0) hx hb hr rfl (fun t ht hW => ⟨0, rfl, ⟨hF.symm, Or.inl rfl⟩, ht⟩) (fun q hq => absurd hq List.not_mem_nil) dL_holds_626
                      have hF := hF.trans (if_neg c_618)
                      refine lv_iconst (v := 1) hx hb dL_holds_621 (by decide) ?_
                      refine lv_goto (tgt := 626) hx hb dL_holds_622 (by decide) ?_
                      rw [hQ]
                      exact W.zret (ty := .boolean) (v := 1) hx hb hr rfl (fun t ht hW => ⟨1, rfl, ⟨hF.symm, Or.inr rfl⟩, ht⟩) (fun q hq => absurd hq List.not_mem_nil) dL_holds_626
                    obtain ⟨jj413, rfl⟩ := cn_goN (N := 16) hkkk413 (by decide) c_417
                    have hF := hF.trans (lq1_s _ _ _ _ _)
                    obtain ⟨nextkk413, hnextkk413⟩ : ∃ y9, y9 = lq1 (fL_holds_b413 PN) (fL_holds_r413 PN x53_3 x53_2 x53_1 x268_4) jj413 (kk413 + 1) := ⟨_, rfl⟩
                    rw [← hnextkk413] at hF
                    refine lv_iload hx hb dL_holds_420 (lv_at hl 1 rfl) ?_
                    have K422 : ∀ (v422_0 : Nat), v422_0 = (if (nI x413_5) = 0 then 0 else (bd ((if (fX1_itemAt 16 (PN 9) (PN 10 5) (nI kk413)) = (-1) then 1 else 0) : Nat) (fun v432_0 => (bd ((if (nI kk413) < (PN 10 5) then 0 else 1) : Nat) (fun v447_0 => (if (nI v432_0) = (nI v447_0) then (if 8 < (nI kk413) then 1 else (bd ((if (fX1_itemAt 8 (PN 8) (PN 10 4) (nI kk413)) = (-1) then 1 else 0) : Nat) (fun v472_0 => (bd ((if (nI kk413) < (PN 10 4) then 0 else 1) : Nat) (fun v487_0 => (if (nI v472_0) = (nI v487_0) then 1 else 0)))))) else 0)))))) → ∀ (ls : Array Slot), lv_has ls 11 [(6, .int (nI kk413)), (5, .int (nI x413_5)), (4, .int x268_4), (3, .int x53_3), (2, .int x53_2), (1, .int x53_1), (0, .ref a0)] → W p l e rmL_holds s m args below meth c s.heap [] 0 0 Q (F0 m 503 ls [.int (nI v422_0)]) := by
                      intro v422_0 hz422  ls hl
                      have hz := hz422
                      have bz422 : (nI v422_0 : Int32) = 0 ∨ nI v422_0 = 1 := by rw [hz]; (try simp only [bd_eq]); (repeat' split); all_goals first | exact Or.inl rfl | exact Or.inr rfl
                      have hF := bd_at hF hz
                      refine lv_istore (lv' := [(5, .int (nI v422_0)), (6, .int (nI kk413)), (4, .int x268_4), (3, .int x53_3), (2, .int x53_2), (1, .int x53_1), (0, .ref a0)]) hx hb dL_holds_503 hl (by decide) rfl (fun ls hl => ?_)
                      refine lv_iconst (v := 0) hx hb dL_holds_505 (by decide) ?_
                      refine lv_istore (lv' := [(7, .int 0), (5, .int (nI v422_0)), (6, .int (nI kk413)), (4, .int x268_4), (3, .int x53_3), (2, .int x53_2), (1, .int x53_1), (0, .ref a0)]) hx hb dL_holds_506 hl (by decide) rfl (fun ls hl => ?_)
                      have L508 : ∀ (jj508 kk508 : Nat) (x508_5 : Nat), kk508 + jj508 = ((nI kk413).toNatClampNeg) → fL_holds PN = lq1 (fL_holds_b508 PN kk413) (fL_holds_r508 nextkk413) jj508 kk508 x508_5 → ∀ (ls : Array Slot), lv_has ls 11 [(7, .int (nI kk508)), (5, .int (nI x508_5)), (6, .int (nI kk413)), (4, .int x268_4), (3, .int x53_3), (2, .int x53_2), (1, .int x53_1), (0, .ref a0)] → W p l e rmL_holds s m args below meth c s.heap [] 0 0 Q (F0 m 508 ls []) := by
                        intro jj508
                        induction jj508 using Nat.strongRecOn with
                        | _ jj508 ihkk508 =>
                          intro kk508 x508_5 hkkk508 hF  ls hl
                          refine lv_iload hx hb dL_holds_508 (lv_at hl 0 rfl) ?_
                          refine lv_iload hx hb dL_holds_510 (lv_at hl 2 rfl) ?_
                          refine lv_icmp_ge (tgt := 558) hx hb dL_holds_512 (by decide) (fun c_512 => ?_) (fun c_512 => ?_)
                          · obtain rfl := cn_exit hkkk508 c_512
                            have hF := hF.trans (lq1_z _ _ _ _)
                            refine lv_iinc (v := (nI (kk413 + 1))) (lv' := [(6, .int (nI (kk413 + 1))), (7, .int (nI kk508)), (5, .int (nI x508_5)), (4, .int x268_4), (3, .int x53_3), (2, .int x53_2), (1, .int x53_1), (0, .ref a0)]) hx hb dL_holds_558 hl (k := 2) rfl (nI_1 _) (by decide) rfl (fun ls hl => ?_)
                            refine lv_goto (tgt := 413) hx hb dL_holds_561 (by decide) ?_
                            have hF : fL_holds PN = nextkk413 x508_5 := hF
                            rw [hnextkk413] at hF
                            exact ihkk413 jj413 (Nat.lt_succ_self _) (kk413 + 1) x508_5 (cn_next hkkk413) hF ls (lv_sub hl [0, 2, 3, 4, 5, 6, 7] rfl)
                          obtain ⟨jj508, rfl⟩ := cn_go hkkk508 c_512
                          have hF := hF.trans (lq1_s _ _ _ _ _)
                          obtain ⟨nextkk508, hnextkk508⟩ : ∃ y9, y9 = lq1 (fL_holds_b508 PN kk413) (fL_holds_r508 nextkk413) jj508 (kk508 + 1) := ⟨_, rfl⟩
                          rw [← hnextkk508] at hF
                          have hlt508 := cn_clamp_lt (nI kk413)
                          refine lv_iload hx hb dL_holds_515 (lv_at hl 1 rfl) ?_
                          have K517 : ∀ (v517_0 : Nat), v517_0 = (if (nI x508_5) = 0 then 0 else (if (fX1_itemAt 16 (PN 9) (PN 10 5) (nI kk413)) = (-1) then 1 else (if (fX1_itemAt 16 (PN 9) (PN 10 5) (nI kk413)) = (fX1_itemAt 16 (PN 9) (PN 10 5) (nI kk508)) then 0 else 1))) → ∀ (ls : Array Slot), lv_has ls 11 [(7, .int (nI kk508)), (5, .int (nI x508_5)), (6, .int (nI kk413)), (4, .int x268_4), (3, .int x53_3), (2, .int x53_2), (1, .int x53_1), (0, .ref a0)] → W p l e rmL_holds s m args below meth c s.heap [] 0 0 Q (F0 m 550 ls [.int (nI v517_0)]) := by
                            intro v517_0 hz517  ls hl
                            have hz := hz517
                            have bz517 : (nI v517_0 : Int32) = 0 ∨ nI v517_0 = 1 := by rw [hz]; (try simp only [bd_eq]); (repeat' split); all_goals first | exact Or.inl rfl | exact Or.inr rfl
                            have hF := bd_at hF hz
                            refine lv_istore (lv' := [(5, .int (nI v517_0)), (7, .int (nI kk508)), (6, .int (nI kk413)), (4, .int x268_4), (3, .int x53_3), (2, .int x53_2), (1, .int x53_1), (0, .ref a0)]) hx hb dL_holds_550 hl (by decide) rfl (fun ls hl => ?_)
                            refine lv_iinc (v := (nI (kk508 + 1))) (lv' := [(7, .int (nI (kk508 + 1))), (5, .int (nI v517_0)), (6, .int (nI kk413)), (4, .int x268_4), (3, .int x53_3), (2, .int x53_2), (1, .int x53_1), (0, .ref a0)]) hx hb dL_holds_552 hl (k := 1) rfl (nI_1 _) (by decide) rfl (fun ls hl => ?_)
                            refine lv_goto (tgt := 508) hx hb dL_holds_555 (by decide) ?_
                            have hF : fL_holds PN = nextkk508 v517_0 := hF
                            rw [hnextkk508] at hF
                            exact ihkk508 jj508 (Nat.lt_succ_self _) (kk508 + 1) v517_0 (cn_next hkkk508) hF ls (lv_sub hl [0, 1, 2, 3, 4, 5, 6, 7] rfl)
                          have hF : ((if (nI x508_5) = 0 then 0 else (if (fX1_itemAt 16 (PN 9) (PN 10 5) (nI kk413)) = (-1) then 1 else (if (fX1_itemAt 16 (PN 9) (PN 10 5) (nI kk413)) = (fX1_itemAt 16 (PN 9) (PN 10 5) (nI kk508)) then 0 else 1))) : Nat) = (if (nI x508_5) = 0 then 0 else (if (fX1_itemAt 16 (PN 9) (PN 10 5) (nI kk413)) = (-1) then 1 else (if (fX1_itemAt 16 (PN 9) (PN 10 5) (nI kk413)) = (fX1_itemAt 16 (PN 9) (PN 10 5) (nI kk508)) then 0 else 1))) := rfl
                          refine lv_if_eq (tgt := 549) hx hb dL_holds_517 (by decide) (fun c_517 => ?_) (fun c_517 => ?_)
                          · have hF := hF.trans (if_pos c_517)
                            refine lv_iconst (v := 0) hx hb dL_holds_549 (by decide) ?_
                            exact K517 _ hF.symm  ls (lv_sub hl [0, 1, 2, 3, 4, 5, 6, 7] rfl)
                          have hF := hF.trans (if_neg c_517)
                          refine lv_aload_n hx hb dL_holds_520 rfl (lv_at hl 7 rfl) ?_
                          refine lv_iload hx hb dL_holds_521 (lv_at hl 2 rfl) ?_
                          have e_523 : (fX6_seated PN (nI kk413)) = Sum.inr ((fX1_itemAt 16 (PN 9) (PN 10 5) (nI kk413)), ()) := (seated_in (k := kk413) (by omega))
                          refine k_calli (W.runV (As := [.int (nI kk413)]) (rest := []) ⟨hx, hb, hml, hown, hts0⟩ (mX6_seated l dC dI cI cP a0 aN aT aS t0 t1 t2 h0 h1 pa PN PT PS f u Ps oh vh k (nI kk413) (ok_inr e_523)) (cwV 1 hts0 (gi_V u_426 u_427 u_428 u_1 u_429) rfl rfl rfl (by decide +kernel) ⟨Nat.le_of_ble_eq_true rfl, Nat.le_of_ble_eq_true rfl⟩) (pcR_V (ci := 4) (q0 := 0) hP hK hn rfl rfl) rfl rfl hl.1 rfl (lv_room (Nat.le_of_ble_eq_true rfl)) dL_holds_523 ⟨Nat.zero_le _, Nat.zero_le _⟩) ?_
                          refine lv_tope (y := (fX1_itemAt 16 (PN 9) (PN 10 5) (nI kk413))) (ok1_inr e_523) ?_
                          refine lv_iconst (v := (-1)) hx hb dL_holds_526 (by decide) ?_
                          refine lv_icmp_eq (tgt := 545) hx hb dL_holds_527 (by decide) (fun c_527 => ?_) (fun c_527 => ?_)
                          · have hF := hF.trans (if_pos c_527)
                            refine lv_iconst (v := 1) hx hb dL_holds_545 (by decide) ?_
                            refine lv_goto (tgt := 550) hx hb dL_holds_546 (by decide) ?_
                            exact K517 _ hF.symm  ls (lv_sub hl [0, 1, 2, 3, 4, 5, 6, 7] rfl)
                          have hF := hF.trans (if_neg c_527)
                          refine lv_aload_n hx hb dL_holds_530 rfl (lv_at hl 7 rfl) ?_
                          refine lv_iload hx hb dL_holds_531 (lv_at hl 2 rfl) ?_
                          have e_533 : (fX6_seated PN (nI kk413)) = Sum.inr ((fX1_itemAt 16 (PN 9) (PN 10 5) (nI kk413)), ()) := (seated_in (k := kk413) (by omega))
                          refine k_calli (W.runV (As := [.int (nI kk413)]) (rest := []) ⟨hx, hb, hml, hown, hts0⟩ (mX6_seated l dC dI cI cP a0 aN aT aS t0 t1 t2 h0 h1 pa PN PT PS f u Ps oh vh k (nI kk413) (ok_inr e_533)) (cwV 1 hts0 (gi_V u_426 u_427 u_428 u_1 u_429) rfl rfl rfl (by decide +kernel) ⟨Nat.le_of_ble_eq_true rfl, Nat.le_of_ble_eq_true rfl⟩) (pcR_V (ci := 4) (q0 := 0) hP hK hn rfl rfl) rfl rfl hl.1 rfl (lv_room (Nat.le_of_ble_eq_true rfl)) dL_holds_533 ⟨Nat.zero_le _, Nat.zero_le _⟩) ?_
                          refine lv_tope (y := (fX1_itemAt 16 (PN 9) (PN 10 5) (nI kk413))) (ok1_inr e_533) ?_
                          refine lv_aload_n hx hb dL_holds_536 rfl (lv_at hl 7 rfl) ?_
                          refine lv_iload hx hb dL_holds_537 (lv_at hl 0 rfl) ?_
                          have e_539 : (fX6_seated PN (nI kk508)) = Sum.inr ((fX1_itemAt 16 (PN 9) (PN 10 5) (nI kk508)), ()) := (seated_in (k := kk508) (by omega))
                          refine k_calli (W.runV (As := [.int (nI kk508)]) (rest := [.int (fX1_itemAt 16 (PN 9) (PN 10 5) (nI kk413))]) ⟨hx, hb, hml, hown, hts0⟩ (mX6_seated l dC dI cI cP a0 aN aT aS t0 t1 t2 h0 h1 pa PN PT PS f u Ps oh vh k (nI kk508) (ok_inr e_539)) (cwV 1 hts0 (gi_V u_426 u_427 u_428 u_1 u_429) rfl rfl rfl (by decide +kernel) ⟨Nat.le_of_ble_eq_true rfl, Nat.le_of_ble_eq_true rfl⟩) (pcR_V (ci := 4) (q0 := 0) hP hK hn rfl rfl) rfl rfl hl.1 rfl (lv_room (Nat.le_of_ble_eq_true rfl)) dL_holds_539 ⟨Nat.zero_le _, Nat.zero_le _⟩) ?_
                          refine lv_tope (y := (fX1_itemAt 16 (PN 9) (PN 10 5) (nI kk508))) (ok1_inr e_539) ?_
                          refine lv_icmp_eq (tgt := 549) hx hb dL_holds_542 (by decide) (fun c_542 => ?_) (fun c_542 => ?_)
                          · have hF := hF.trans (if_pos c_542)
                            refine lv_iconst (v := 0) hx hb dL_holds_549 (by decide) ?_
                            exact K517 _ hF.symm  ls (lv_sub hl [0, 1, 2, 3, 4, 5, 6, 7] rfl)
                          have hF := hF.trans (if_neg c_542)
                          refine lv_iconst (v := 1) hx hb dL_holds_545 (by decide) ?_
                          refine lv_goto (tgt := 550) hx hb dL_holds_546 (by decide) ?_
                          exact K517 _ hF.symm  ls (lv_sub hl [0, 1, 2, 3, 4, 5, 6, 7] rfl)
                      exact L508 ((nI kk413).toNatClampNeg) 0 v422_0 (Nat.zero_add _) hF ls (lv_sub hl [0, 1, 2, 3, 4, 5, 6, 7] rfl)
                    have hF : ((if (nI x413_5) = 0 then 0 else (bd ((if (fX1_itemAt 16 (PN 9) (PN 10 5) (nI kk413)) = (-1) then 1 else 0) : Nat) (fun v432_0 => (bd ((if (nI kk413) < (PN 10 5) then 0 else 1) : Nat) (fun v447_0 => (if (nI v432_0) = (nI v447_0) then (if 8 < (nI kk413) then 1 else (bd ((if (fX1_itemAt 8 (PN 8) (PN 10 4) (nI kk413)) = (-1) then 1 else 0) : Nat) (fun v472_0 => (bd ((if (nI kk413) < (PN 10 4) then 0 else 1) : Nat) (fun v487_0 => (if (nI v472_0) = (nI v487_0) then 1 else 0)))))) else 0)))))) : Nat) = (if (nI x413_5) = 0 then 0 else (bd ((if (fX1_itemAt 16 (PN 9) (PN 10 5) (nI kk413)) = (-1) then 1 else 0) : Nat) (fun v432_0 => (bd ((if (nI kk413) < (PN 10 5) then 0 else 1) : Nat) (fun v447_0 => (if (nI v432_0) = (nI v447_0) then (if 8 < (nI kk413) then 1 else (bd ((if (fX1_itemAt 8 (PN 8) (PN 10 4) (nI kk413)) = (-1) then 1 else 0) : Nat) (fun v472_0 => (bd ((if (nI kk413) < (PN 10 4) then 0 else 1) : Nat) (fun v487_0 => (if (nI v472_0) = (nI v487_0) then 1 else 0)))))) else 0)))))) := rfl
                    refine lv_if_eq (tgt := 502) hx hb dL_holds_422 (by decide) (fun c_422 => ?_) (fun c_422 => ?_)
                    · have hF := hF.trans (if_pos c_422)
                      refine lv_iconst (v := 0) hx hb dL_holds_502 (by decide) ?_
                      exact K422 _ hF.symm  ls (lv_sub hl [0, 1, 2, 3, 4, 5, 6] rfl)
                    have hF := hF.trans (if_neg c_422)
                    refine lv_aload_n hx hb dL_holds_425 rfl (lv_at hl 6 rfl) ?_
                    refine lv_iload hx hb dL_holds_426 (lv_at hl 0 rfl) ?_
                    have e_428 : (fX6_seated PN (nI kk413)) = Sum.inr ((fX1_itemAt 16 (PN 9) (PN 10 5) (nI kk413)), ()) := (seated_in (k := kk413) (by omega))
                    refine k_calli (W.runV (As := [.int (nI kk413)]) (rest := []) ⟨hx, hb, hml, hown, hts0⟩ (mX6_seated l dC dI cI cP a0 aN aT aS t0 t1 t2 h0 h1 pa PN PT PS f u Ps oh vh k (nI kk413) (ok_inr e_428)) (cwV 1 hts0 (gi_V u_426 u_427 u_428 u_1 u_429) rfl rfl rfl (by decide +kernel) ⟨Nat.le_of_ble_eq_true rfl, Nat.le_of_ble_eq_true rfl⟩) (pcR_V (ci := 4) (q0 := 0) hP hK hn rfl rfl) rfl rfl hl.1 rfl (lv_room (Nat.le_of_ble_eq_true rfl)) dL_holds_428 ⟨Nat.zero_le _, Nat.zero_le _⟩) ?_
                    refine lv_tope (y := (fX1_itemAt 16 (PN 9) (PN 10 5) (nI kk413))) (ok1_inr e_428) ?_
                    refine lv_iconst (v := (-1)) hx hb dL_holds_431 (by decide) ?_
                    have K432 : ∀ (v432_0 : Nat), v432_0 = (if (fX1_itemAt 16 (PN 9) (PN 10 5) (nI kk413)) = (-1) then 1 else 0) → ∀ (ls : Array Slot), lv_has ls 11 [(6, .int (nI kk413)), (5, .int (nI x413_5)), (4, .int x268_4), (3, .int x53_3), (2, .int x53_2), (1, .int x53_1), (0, .ref a0)] → W p l e rmL_holds s m args below meth c s.heap [] 0 0 Q (F0 m 440 ls [.int (nI v432_0)]) := by
                      intro v432_0 hz432  ls hl
                      have hz := hz432
                      have bz432 : (nI v432_0 : Int32) = 0 ∨ nI v432_0 = 1 := by rw [hz]; (try simp only [bd_eq]); (repeat' split); all_goals first | exact Or.inl rfl | exact Or.inr rfl
                      have hF := bd_at hF hz
                      refine lv_iload hx hb dL_holds_440 (lv_at hl 0 rfl) ?_
                      refine lv_aload_n hx hb dL_holds_442 rfl (lv_at hl 6 rfl) ?_
                      refine lv_iconst (v := 3) hx hb dL_holds_443 (by decide) ?_
                      have e_444 : (fX6_count PN Ps oh vh 3) = Sum.inr ((PN 10 5), ()) := count_3
                      refine k_calli (W.runV (As := [.int 3]) (rest := [.int (nI kk413), .int (nI v432_0)]) ⟨hx, hb, hml, hown, hts0⟩ (mX6_count l dC dI cI cP a0 aN aT aS t0 t1 t2 h0 h1 pa PN PT PS f u Ps oh vh k 3 (ok_inr e_444)) (cwV 1 hts0 (gi_V u_268 u_269 u_270 u_1 u_271) rfl rfl rfl (by decide +kernel) ⟨Nat.le_of_ble_eq_true rfl, Nat.le_of_ble_eq_true rfl⟩) (pcR_V (ci := 4) (q0 := 0) hP hK hn rfl rfl) rfl rfl hl.1 rfl (lv_room (Nat.le_of_ble_eq_true rfl)) dL_holds_444 ⟨Nat.zero_le _, Nat.zero_le _⟩) ?_
                      refine lv_tope (y := (PN 10 5)) (ok1_inr e_444) ?_
                      have K447 : ∀ (v447_0 : Nat), v447_0 = (if (nI kk413) < (PN 10 5) then 0 else 1) → ∀ (ls : Array Slot), lv_has ls 11 [(6, .int (nI kk413)), (5, .int (nI x413_5)), (4, .int x268_4), (3, .int x53_3), (2, .int x53_2), (1, .int x53_1), (0, .ref a0)] → W p l e rmL_holds s m args below meth c s.heap [] 0 0 Q (F0 m 455 ls [.int (nI v447_0), .int (nI v432_0)]) := by
                        intro v447_0 hz447  ls hl
                        have hz := hz447
                        have bz447 : (nI v447_0 : Int32) = 0 ∨ nI v447_0 = 1 := by rw [hz]; (try simp only [bd_eq]); (repeat' split); all_goals first | exact Or.inl rfl | exact Or.inr rfl
                        have hF := bd_at hF hz
                        refine lv_icmp_ne (tgt := 502) hx hb dL_holds_455 (by decide) (fun c_455 => ?_) (fun c_455 => ?_)
                        · have hF := hF.trans (if_neg c_455)
                          refine lv_iconst (v := 0) hx hb dL_holds_502 (by decide) ?_
                          exact K422 _ hF.symm  ls (lv_sub hl [0, 1, 2, 3, 4, 5, 6] rfl)
                        have hF := hF.trans (if_pos c_455)
                        refine lv_iload hx hb dL_holds_458 (lv_at hl 0 rfl) ?_
                        refine lv_bipush (v := 8) hx hb dL_holds_460 (by decide) ?_
                        refine lv_icmp_gt (tgt := 498) hx hb dL_holds_462 (by decide) (fun c_462 => ?_) (fun c_462 => ?_)
                        · have hF := hF.trans (if_pos c_462)
                          refine lv_iconst (v := 1) hx hb dL_holds_498 (by decide) ?_
                          refine lv_goto (tgt := 503) hx hb dL_holds_499 (by decide) ?_
                          exact K422 _ hF.symm  ls (lv_sub hl [0, 1, 2, 3, 4, 5, 6] rfl)
                        have hF := hF.trans (if_neg c_462)
                        refine lv_aload_n hx hb dL_holds_465 rfl (lv_at hl 6 rfl) ?_
                        refine lv_iload hx hb dL_holds_466 (lv_at hl 0 rfl) ?_
                        have e_468 : (fX6_feudAt PN (nI kk413)) = Sum.inr ((fX1_itemAt 8 (PN 8) (PN 10 4) (nI kk413)), ()) := (feudAt_in (k := kk413) (by omega))
                        refine k_calli (W.runV (As := [.int (nI kk413)]) (rest := []) ⟨hx, hb, hml, hown, hts0⟩ (mX6_feudAt l dC dI cI cP a0 aN aT aS t0 t1 t2 h0 h1 pa PN PT PS f u Ps oh vh k (nI kk413) (ok_inr e_468)) (cwV 1 hts0 (gi_V u_438 u_439 u_440 u_1 u_441) rfl rfl rfl (by decide +kernel) ⟨Nat.le_of_ble_eq_true rfl, Nat.le_of_ble_eq_true rfl⟩) (pcR_V (ci := 4) (q0 := 0) hP hK hn rfl rfl) rfl rfl hl.1 rfl (lv_room (Nat.le_of_ble_eq_true rfl)) dL_holds_468 ⟨Nat.zero_le _, Nat.zero_le _⟩) ?_
                        refine lv_tope (y := (fX1_itemAt 8 (PN 8) (PN 10 4) (nI kk413))) (ok1_inr e_468) ?_
                        refine lv_iconst (v := (-1)) hx hb dL_holds_471 (by decide) ?_
                        have K472 : ∀ (v472_0 : Nat), v472_0 = (if (fX1_itemAt 8 (PN 8) (PN 10 4) (nI kk413)) = (-1) then 1 else 0) → ∀ (ls : Array Slot), lv_has ls 11 [(6, .int (nI kk413)), (5, .int (nI x413_5)), (4, .int x268_4), (3, .int x53_3), (2, .int x53_2), (1, .int x53_1), (0, .ref a0)] → W p l e rmL_holds s m args below meth c s.heap [] 0 0 Q (F0 m 480 ls [.int (nI v472_0)]) := by
                          intro v472_0 hz472  ls hl
                          have hz := hz472
                          have bz472 : (nI v472_0 : Int32) = 0 ∨ nI v472_0 = 1 := by rw [hz]; (try simp only [bd_eq]); (repeat' split); all_goals first | exact Or.inl rfl | exact Or.inr rfl
                          have hF := bd_at hF hz
                          refine lv_iload hx hb dL_holds_480 (lv_at hl 0 rfl) ?_
                          refine lv_aload_n hx hb dL_holds_482 rfl (lv_at hl 6 rfl) ?_
                          refine lv_iconst (v := 2) hx hb dL_holds_483 (by decide) ?_
                          have e_484 : (fX6_count PN Ps oh vh 2) = Sum.inr ((PN 10 4), ()) := count_2
                          refine k_calli (W.runV (As := [.int 2]) (rest := [.int (nI kk413), .int (nI v472_0)]) ⟨hx, hb, hml, hown, hts0⟩ (mX6_count l dC dI cI cP a0 aN aT aS t0 t1 t2 h0 h1 pa PN PT PS f u Ps oh vh k 2 (ok_inr e_484)) (cwV 1 hts0 (gi_V u_268 u_269 u_270 u_1 u_271) rfl rfl rfl (by decide +kernel) ⟨Nat.le_of_ble_eq_true rfl, Nat.le_of_ble_eq_true rfl⟩) (pcR_V (ci := 4) (q0 := 0) hP hK hn rfl rfl) rfl rfl hl.1 rfl (lv_room (Nat.le_of_ble_eq_true rfl)) dL_holds_484 ⟨Nat.zero_le _, Nat.zero_le _⟩) ?_
                          refine lv_tope (y := (PN 10 4)) (ok1_inr e_484) ?_
                          have K487 : ∀ (v487_0 : Nat), v487_0 = (if (nI kk413) < (PN 10 4) then 0 else 1) → ∀ (ls : Array Slot), lv_has ls 11 [(6, .int (nI kk413)), (5, .int (nI x413_5)), (4, .int x268_4), (3, .int x53_3), (2, .int x53_2), (1, .int x53_1), (0, .ref a0)] → W p l e rmL_holds s m args below meth c s.heap [] 0 0 Q (F0 m 495 ls [.int (nI v487_0), .int (nI v472_0)]) := by
                            intro v487_0 hz487  ls hl
                            have hz := hz487
                            have bz487 : (nI v487_0 : Int32) = 0 ∨ nI v487_0 = 1 := by rw [hz]; (try simp only [bd_eq]); (repeat' split); all_goals first | exact Or.inl rfl | exact Or.inr rfl
                            have hF := bd_at hF hz
                            refine lv_icmp_ne (tgt := 502) hx hb dL_holds_495 (by decide) (fun c_495 => ?_) (fun c_495 => ?_)
                            · have hF := hF.trans (if_neg c_495)
                              refine lv_iconst (v := 0) hx hb dL_holds_502 (by decide) ?_
                              exact K422 _ hF.symm  ls (lv_sub hl [0, 1, 2, 3, 4, 5, 6] rfl)
                            have hF := hF.trans (if_pos c_495)
                            refine lv_iconst (v := 1) hx hb dL_holds_498 (by decide) ?_
                            refine lv_goto (tgt := 503) hx hb dL_holds_499 (by decide) ?_
                            exact K422 _ hF.symm  ls (lv_sub hl [0, 1, 2, 3, 4, 5, 6] rfl)
                          have hF : ((if (nI kk413) < (PN 10 4) then 0 else 1) : Nat) = (if (nI kk413) < (PN 10 4) then 0 else 1) := rfl
                          refine lv_icmp_lt (tgt := 494) hx hb dL_holds_487 (by decide) (fun c_487 => ?_) (fun c_487 => ?_)
                          · have hF := hF.trans (if_pos c_487)
                            refine lv_iconst (v := 0) hx hb dL_holds_494 (by decide) ?_
                            exact K487 _ hF.symm  ls (lv_sub hl [0, 1, 2, 3, 4, 5, 6] rfl)
                          have hF := hF.trans (if_neg c_487)
                          refine lv_iconst (v := 1) hx hb dL_holds_490 (by decide) ?_
                          refine lv_goto (tgt := 495) hx hb dL_holds_491 (by decide) ?_
                          exact K487 _ hF.symm  ls (lv_sub hl [0, 1, 2, 3, 4, 5, 6] rfl)
                        have hF : ((if (fX1_itemAt 8 (PN 8) (PN 10 4) (nI kk413)) = (-1) then 1 else 0) : Nat) = (if (fX1_itemAt 8 (PN 8) (PN 10 4) (nI kk413)) = (-1) then 1 else 0) := rfl
                        refine lv_icmp_ne (tgt := 479) hx hb dL_holds_472 (by decide) (fun c_472 => ?_) (fun c_472 => ?_)
                        · have hF := hF.trans (if_neg c_472)
                          refine lv_iconst (v := 0) hx hb dL_holds_479 (by decide) ?_
                          exact K472 _ hF.symm  ls (lv_sub hl [0, 1, 2, 3, 4, 5, 6] rfl)
                        have hF := hF.trans (if_pos c_472)
                        refine lv_iconst (v := 1) hx hb dL_holds_475 (by decide) ?_
                        refine lv_goto (tgt := 480) hx hb dL_holds_476 (by decide) ?_
                        exact K472 _ hF.symm  ls (lv_sub hl [0, 1, 2, 3, 4, 5, 6] rfl)
                      have hF : ((if (nI kk413) < (PN 10 5) then 0 else 1) : Nat) = (if (nI kk413) < (PN 10 5) then 0 else 1) := rfl
                      refine lv_icmp_lt (tgt := 454) hx hb dL_holds_447 (by decide) (fun c_447 => ?_) (fun c_447 => ?_)
                      · have hF := hF.trans (if_pos c_447)
                        refine lv_iconst (v := 0) hx hb dL_holds_454 (by decide) ?_
                        exact K447 _ hF.symm  ls (lv_sub hl [0, 1, 2, 3, 4, 5, 6] rfl)
                      have hF := hF.trans (if_neg c_447)
                      refine lv_iconst (v := 1) hx hb dL_holds_450 (by decide) ?_
                      refine lv_goto (tgt := 455) hx hb dL_holds_451 (by decide) ?_
                      exact K447 _ hF.symm  ls (lv_sub hl [0, 1, 2, 3, 4, 5, 6] rfl)
                    have hF : ((if (fX1_itemAt 16 (PN 9) (PN 10 5) (nI kk413)) = (-1) then 1 else 0) : Nat) = (if (fX1_itemAt 16 (PN 9) (PN 10 5) (nI kk413)) = (-1) then 1 else 0) := rfl
                    refine lv_icmp_ne (tgt := 439) hx hb dL_holds_432 (by decide) (fun c_432 => ?_) (fun c_432 => ?_)
                    · have hF := hF.trans (if_neg c_432)
                      refine lv_iconst (v := 0) hx hb dL_holds_439 (by decide) ?_
                      exact K432 _ hF.symm  ls (lv_sub hl [0, 1, 2, 3, 4, 5, 6] rfl)
                    have hF := hF.trans (if_pos c_432)
                    refine lv_iconst (v := 1) hx hb dL_holds_435 (by decide) ?_
                    refine lv_goto (tgt := 440) hx hb dL_holds_436 (by decide) ?_
                    exact K432 _ hF.symm  ls (lv_sub hl [0, 1, 2, 3, 4, 5, 6] rfl)
                exact L413 16 0 x268_5 (Nat.zero_add _) hF ls (lv_sub hl [0, 1, 2, 3, 4, 5, 6] rfl)
              obtain ⟨jj268, rfl⟩ := cn_go hkkk268 c_275
              have hF := hF.trans (lq2_s _ _ _ _ _ _)
              obtain ⟨nextkk268, hnextkk268⟩ : ∃ y9, y9 = lq2 (fL_holds_b268 PN) (fL_holds_r268 PN x53_3 x53_2 x53_1) jj268 (kk268 + 1) := ⟨_, rfl⟩
              rw [← hnextkk268] at hF
              have hN268 : (PN 10 1).toNatClampNeg = T := pt_n hR
              refine lv_iload hx hb dL_holds_278 (lv_at hl 2 rfl) ?_
              refine lv_aload_n hx hb dL_holds_280 rfl (lv_at hl 6 rfl) ?_
              refine lv_iload hx hb dL_holds_281 (lv_at hl 0 rfl) ?_
              refine lv_iconst (v := 3) hx hb dL_holds_283 (by decide) ?_
              have e_284 : (fX6_tableOf PN (nI kk268) 3) = Sum.inr ((fX6_tableNumber PN (nI kk268) 3), ()) := (tableOf_in hR (t := kk268) (w := 3) (by omega) (by omega))
              refine k_calli (W.runV (As := [.int (nI kk268), .int 3]) (rest := [.int x268_4]) ⟨hx, hb, hml, hown, hts0⟩ (mX6_tableOf l dC dI cI cP a0 aN aT aS t0 t1 t2 h0 h1 pa PN PT PS f u Ps oh vh k (nI kk268) 3 (ok_inr e_284)) (cwV 2 hts0 (gi_V u_391 u_392 u_393 u_1 u_394) rfl rfl rfl (by decide +kernel) ⟨Nat.le_of_ble_eq_true rfl, Nat.le_of_ble_eq_true rfl⟩) (pcR_V (ci := 4) (q0 := 0) hP hK hn rfl rfl) rfl rfl hl.1 rfl (lv_room (Nat.le_of_ble_eq_true rfl)) dL_holds_284 ⟨Nat.zero_le _, Nat.zero_le _⟩) ?_
              refine lv_tope (y := (fX6_tableNumber PN (nI kk268) 3)) (ok1_inr e_284) ?_
              refine lv_iadd hx hb dL_holds_287 ?_
              refine lv_istore (lv' := [(4, .int (x268_4 + (fX6_tableNumber PN (nI kk268) 3))), (6, .int (nI kk268)), (5, .int (nI x268_5)), (3, .int x53_3), (2, .int x53_2), (1, .int x53_1), (0, .ref a0)]) hx hb dL_holds_288 hl (by decide) rfl (fun ls hl => ?_)
              refine lv_iconst (v := 0) hx hb dL_holds_290 (by decide) ?_
              refine lv_istore (lv' := [(7, .int 0), (4, .int (x268_4 + (fX6_tableNumber PN (nI kk268) 3))), (6, .int (nI kk268)), (5, .int (nI x268_5)), (3, .int x53_3), (2, .int x53_2), (1, .int x53_1), (0, .ref a0)]) hx hb dL_holds_291 hl (by decide) rfl (fun ls hl => ?_)
              have L293 : ∀ (jj293 kk293 : Nat) (x293_5 : Nat), kk293 + jj293 = ((PN 10 4).toNatClampNeg) → fL_holds PN = lq1 (fL_holds_b293 PN kk268) (fL_holds_r293 nextkk268 PN kk268 x268_4) jj293 kk293 x293_5 → ∀ (ls : Array Slot), lv_has ls 11 [(7, .int (nI kk293)), (4, .int (x268_4 + (fX6_tableNumber PN (nI kk268) 3))), (6, .int (nI kk268)), (5, .int (nI x293_5)), (3, .int x53_3), (2, .int x53_2), (1, .int x53_1), (0, .ref a0)] → W p l e rmL_holds s m args below meth c s.heap [] 0 0 Q (F0 m 293 ls []) := by
                intro jj293
                induction jj293 using Nat.strongRecOn with
                | _ jj293 ihkk293 =>
                  intro kk293 x293_5 hkkk293 hF  ls hl
                  refine lv_iload hx hb dL_holds_293 (lv_at hl 0 rfl) ?_
                  refine lv_aload_n hx hb dL_holds_295 rfl (lv_at hl 7 rfl) ?_
                  refine lv_iconst (v := 2) hx hb dL_holds_296 (by decide) ?_
                  have e_297 : (fX6_count PN Ps oh vh 2) = Sum.inr ((PN 10 4), ()) := count_2
                  refine k_calli (W.runV (As := [.int 2]) (rest := [.int (nI kk293)]) ⟨hx, hb, hml, hown, hts0⟩ (mX6_count l dC dI cI cP a0 aN aT aS t0 t1 t2 h0 h1 pa PN PT PS f u Ps oh vh k 2 (ok_inr e_297)) (cwV 1 hts0 (gi_V u_268 u_269 u_270 u_1 u_271) rfl rfl rfl (by decide +kernel) ⟨Nat.le_of_ble_eq_true rfl, Nat.le_of_ble_eq_true rfl⟩) (pcR_V (ci := 4) (q0 := 0) hP hK hn rfl rfl) rfl rfl hl.1 rfl (lv_room (Nat.le_of_ble_eq_true rfl)) dL_holds_297 ⟨Nat.zero_le _, Nat.zero_le _⟩) ?_
                  refine lv_tope (y := (PN 10 4)) (ok1_inr e_297) ?_
                  refine lv_icmp_ge (tgt := 359) hx hb dL_holds_300 (by decide) (fun c_300 => ?_) (fun c_300 => ?_)
                  · obtain rfl := cn_exit hkkk293 c_300
                    have hF := hF.trans (lq1_z _ _ _ _)
                    refine lv_iconst (v := 0) hx hb dL_holds_359 (by decide) ?_
                    refine lv_istore (lv' := [(7, .int 0), (4, .int (x268_4 + (fX6_tableNumber PN (nI kk268) 3))), (6, .int (nI kk268)), (5, .int (nI x293_5)), (3, .int x53_3), (2, .int x53_2), (1, .int x53_1), (0, .ref a0)]) hx hb dL_holds_360 hl (by decide) rfl (fun ls hl => ?_)
                    have L362 : ∀ (jj362 kk362 : Nat) (x362_5 : Nat), kk362 + jj362 = ((fX6_tableNumber PN (nI kk268) 0).toNatClampNeg) → fL_holds PN = lq1 (fL_holds_b362 PN kk268) (fL_holds_r362 nextkk268 PN kk268 x268_4) jj362 kk362 x362_5 → ∀ (ls : Array Slot), lv_has ls 11 [(7, .int (nI kk362)), (4, .int (x268_4 + (fX6_tableNumber PN (nI kk268) 3))), (6, .int (nI kk268)), (5, .int (nI x362_5)), (3, .int x53_3), (2, .int x53_2), (1, .int x53_1), (0, .ref a0)] → W p l e rmL_holds s m args below meth c s.heap [] 0 0 Q (F0 m 362 ls []) := by
                      intro jj362
                      induction jj362 using Nat.strongRecOn with
                      | _ jj362 ihkk362 =>
                        intro kk362 x362_5 hkkk362 hF  ls hl
                        refine lv_iload hx hb dL_holds_362 (lv_at hl 0 rfl) ?_
                        refine lv_aload_n hx hb dL_holds_364 rfl (lv_at hl 7 rfl) ?_
                        refine lv_iload hx hb dL_holds_365 (lv_at hl 2 rfl) ?_
                        refine lv_iconst (v := 0) hx hb dL_holds_367 (by decide) ?_
                        have e_368 : (fX6_tableOf PN (nI kk268) 0) = Sum.inr ((fX6_tableNumber PN (nI kk268) 0), ()) := (tableOf_in hR (t := kk268) (w := 0) (by omega) (by omega))
                        refine k_calli (W.runV (As := [.int (nI kk268), .int 0]) (rest := [.int (nI kk362)]) ⟨hx, hb, hml, hown, hts0⟩ (mX6_tableOf l dC dI cI cP a0 aN aT aS t0 t1 t2 h0 h1 pa PN PT PS f u Ps oh vh k (nI kk268) 0 (ok_inr e_368)) (cwV 2 hts0 (gi_V u_391 u_392 u_393 u_1 u_394) rfl rfl rfl (by decide +kernel) ⟨Nat.le_of_ble_eq_true rfl, Nat.le_of_ble_eq_true rfl⟩) (pcR_V (ci := 4) (q0 := 0) hP hK hn rfl rfl) rfl rfl hl.1 rfl (lv_room (Nat.le_of_ble_eq_true rfl)) dL_holds_368 ⟨Nat.zero_le _, Nat.zero_le _⟩) ?_
                        refine lv_tope (y := (fX6_tableNumber PN (nI kk268) 0)) (ok1_inr e_368) ?_
                        refine lv_icmp_ge (tgt := 404) hx hb dL_holds_371 (by decide) (fun c_371 => ?_) (fun c_371 => ?_)
                        · obtain rfl := cn_exit hkkk362 c_371
                          have hF := hF.trans (lq1_z _ _ _ _)
                          refine lv_iinc (v := (nI (kk268 + 1))) (lv' := [(6, .int (nI (kk268 + 1))), (7, .int (nI kk362)), (4, .int (x268_4 + (fX6_tableNumber PN (nI kk268) 3))), (5, .int (nI x362_5)), (3, .int x53_3), (2, .int x53_2), (1, .int x53_1), (0, .ref a0)]) hx hb dL_holds_404 hl (k := 2) rfl (nI_1 _) (by decide) rfl (fun ls hl => ?_)
                          refine lv_goto (tgt := 268) hx hb dL_holds_407 (by decide) ?_
                          have hF : fL_holds PN = nextkk268 x362_5 (x268_4 + (fX6_tableNumber PN (nI kk268) 3)) := hF
                          rw [hnextkk268] at hF
                          exact ihkk268 jj268 (Nat.lt_succ_self _) (kk268 + 1) x362_5 (x268_4 + (fX6_tableNumber PN (nI kk268) 3)) (cn_next hkkk268) hF ls (lv_sub hl [0, 3, 2, 4, 5, 6, 7] rfl)
                        obtain ⟨jj362, rfl⟩ := cn_go hkkk362 c_371
                        have hF := hF.trans (lq1_s _ _ _ _ _)
                        obtain ⟨nextkk362, hnextkk362⟩ : ∃ y9, y9 = lq1 (fL_holds_b362 PN kk268) (fL_holds_r362 nextkk268 PN kk268 x268_4) jj362 (kk362 + 1) := ⟨_, rfl⟩
                        rw [← hnextkk362] at hF
                        have hlt362 := cn_clamp_lt (fX6_tableNumber PN (nI kk268) 0)
                        refine lv_iload hx hb dL_holds_374 (lv_at hl 3 rfl) ?_
                        have K376 : ∀ (v376_0 : Nat), v376_0 = (if (nI x362_5) = 0 then 0 else (if (fX2_letterOfTable PN (nI kk268) (nI kk362)) = (-1) then 0 else 1)) → ∀ (ls : Array Slot), lv_has ls 11 [(7, .int (nI kk362)), (4, .int (x268_4 + (fX6_tableNumber PN (nI kk268) 3))), (6, .int (nI kk268)), (5, .int (nI x362_5)), (3, .int x53_3), (2, .int x53_2), (1, .int x53_1), (0, .ref a0)] → W p l e rmL_holds s m args below meth c s.heap [] 0 0 Q (F0 m 396 ls [.int (nI v376_0)]) := by
                          intro v376_0 hz376  ls hl
                          have hz := hz376
                          have bz376 : (nI v376_0 : Int32) = 0 ∨ nI v376_0 = 1 := by rw [hz]; (try simp only [bd_eq]); (repeat' split); all_goals first | exact Or.inl rfl | exact Or.inr rfl
                          have hF := bd_at hF hz
                          refine lv_istore (lv' := [(5, .int (nI v376_0)), (7, .int (nI kk362)), (4, .int (x268_4 + (fX6_tableNumber PN (nI kk268) 3))), (6, .int (nI kk268)), (3, .int x53_3), (2, .int x53_2), (1, .int x53_1), (0, .ref a0)]) hx hb dL_holds_396 hl (by decide) rfl (fun ls hl => ?_)
                          refine lv_iinc (v := (nI (kk362 + 1))) (lv' := [(7, .int (nI (kk362 + 1))), (5, .int (nI v376_0)), (4, .int (x268_4 + (fX6_tableNumber PN (nI kk268) 3))), (6, .int (nI kk268)), (3, .int x53_3), (2, .int x53_2), (1, .int x53_1), (0, .ref a0)]) hx hb dL_holds_398 hl (k := 1) rfl (nI_1 _) (by decide) rfl (fun ls hl => ?_)
                          refine lv_goto (tgt := 362) hx hb dL_holds_401 (by decide) ?_
                          have hF : fL_holds PN = nextkk362 v376_0 := hF
                          rw [hnextkk362] at hF
                          exact ihkk362 jj362 (Nat.lt_succ_self _) (kk362 + 1) v376_0 (cn_next hkkk362) hF ls (lv_sub hl [0, 2, 3, 1, 4, 5, 6, 7] rfl)
                        have hF : ((if (nI x362_5) = 0 then 0 else (if (fX2_letterOfTable PN (nI kk268) (nI kk362)) = (-1) then 0 else 1)) : Nat) = (if (nI x362_5) = 0 then 0 else (if (fX2_letterOfTable PN (nI kk268) (nI kk362)) = (-1) then 0 else 1)) := rfl
                        refine lv_if_eq (tgt := 395) hx hb dL_holds_376 (by decide) (fun c_376 => ?_) (fun c_376 => ?_)
                        · have hF := hF.trans (if_pos c_376)
                          refine lv_iconst (v := 0) hx hb dL_holds_395 (by decide) ?_
                          exact K376 _ hF.symm  ls (lv_sub hl [0, 1, 2, 3, 4, 5, 6, 7] rfl)
                        have hF := hF.trans (if_neg c_376)
                        refine lv_aload_n hx hb dL_holds_379 rfl (lv_at hl 7 rfl) ?_
                        refine lv_iload hx hb dL_holds_380 (lv_at hl 2 rfl) ?_
                        refine lv_iload hx hb dL_holds_382 (lv_at hl 0 rfl) ?_
                        have e_384 : (fX6_told PN (nI kk268) (nI kk362)) = Sum.inr ((fX2_letterOfTable PN (nI kk268) (nI kk362)), ()) := (told_in hR (t := kk268) (k := kk362) (by omega) (by omega))
                        refine k_calli (W.runV (As := [.int (nI kk268), .int (nI kk362)]) (rest := []) ⟨hx, hb, hml, hown, hts0⟩ (mX6_told l dC dI cI cP a0 aN aT aS t0 t1 t2 h0 h1 pa PN PT PS f u Ps oh vh k (nI kk268) (nI kk362) (ok_inr e_384)) (cwV 2 hts0 (gi_V u_637 u_638 u_639 u_1 u_640) rfl rfl rfl (by decide +kernel) ⟨Nat.le_of_ble_eq_true rfl, Nat.le_of_ble_eq_true rfl⟩) (pcR_V (ci := 4) (q0 := 0) hP hK hn rfl rfl) rfl rfl hl.1 rfl (lv_room (Nat.le_of_ble_eq_true rfl)) dL_holds_384 ⟨Nat.zero_le _, Nat.zero_le _⟩) ?_
                        refine lv_tope (y := (fX2_letterOfTable PN (nI kk268) (nI kk362))) (ok1_inr e_384) ?_
                        refine lv_iconst (v := (-1)) hx hb dL_holds_387 (by decide) ?_
                        refine lv_icmp_eq (tgt := 395) hx hb dL_holds_388 (by decide) (fun c_388 => ?_) (fun c_388 => ?_)
                        · have hF := hF.trans (if_pos c_388)
                          refine lv_iconst (v := 0) hx hb dL_holds_395 (by decide) ?_
                          exact K376 _ hF.symm  ls (lv_sub hl [0, 1, 2, 3, 4, 5, 6, 7] rfl)
                        have hF := hF.trans (if_neg c_388)
                        refine lv_iconst (v := 1) hx hb dL_holds_391 (by decide) ?_
                        refine lv_goto (tgt := 396) hx hb dL_holds_392 (by decide) ?_
                        exact K376 _ hF.symm  ls (lv_sub hl [0, 1, 2, 3, 4, 5, 6, 7] rfl)
                    exact L362 ((fX6_tableNumber PN (nI kk268) 0).toNatClampNeg) 0 x293_5 (Nat.zero_add _) hF ls (lv_sub hl [0, 1, 2, 3, 4, 5, 6, 7] rfl)
                  obtain ⟨jj293, rfl⟩ := cn_go hkkk293 c_300
                  have hF := hF.trans (lq1_s _ _ _ _ _)
                  obtain ⟨nextkk293, hnextkk293⟩ : ∃ y9, y9 = lq1 (fL_holds_b293 PN kk268) (fL_holds_r293 nextkk268 PN kk268 x268_4) jj293 (kk293 + 1) := ⟨_, rfl⟩
                  rw [← hnextkk293] at hF
                  have hlt293 := cn_clamp_lt (PN 10 4)
                  refine lv_aload_n hx hb dL_holds_303 rfl (lv_at hl 7 rfl) ?_
                  refine lv_iload hx hb dL_holds_304 (lv_at hl 0 rfl) ?_
                  have e_306 : (fX6_feudAt PN (nI kk293)) = Sum.inr ((fX1_itemAt 8 (PN 8) (PN 10 4) (nI kk293)), ()) := (feudAt_in (k := kk293) (by omega))
                  refine k_calli (W.runV (As := [.int (nI kk293)]) (rest := []) ⟨hx, hb, hml, hown, hts0⟩ (mX6_feudAt l dC dI cI cP a0 aN aT aS t0 t1 t2 h0 h1 pa PN PT PS f u Ps oh vh k (nI kk293) (ok_inr e_306)) (cwV 1 hts0 (gi_V u_438 u_439 u_440 u_1 u_441) rfl rfl rfl (by decide +kernel) ⟨Nat.le_of_ble_eq_true rfl, Nat.le_of_ble_eq_true rfl⟩) (pcR_V (ci := 4) (q0 := 0) hP hK hn rfl rfl) rfl rfl hl.1 rfl (lv_room (Nat.le_of_ble_eq_true rfl)) dL_holds_306 ⟨Nat.zero_le _, Nat.zero_le _⟩) ?_
                  refine lv_tope (y := (fX1_itemAt 8 (PN 8) (PN 10 4) (nI kk293))) (ok1_inr e_306) ?_
                  refine lv_istore (lv' := [(8, .int (fX1_itemAt 8 (PN 8) (PN 10 4) (nI kk293))), (7, .int (nI kk293)), (4, .int (x268_4 + (fX6_tableNumber PN (nI kk268) 3))), (6, .int (nI kk268)), (5, .int (nI x293_5)), (3, .int x53_3), (2, .int x53_2), (1, .int x53_1), (0, .ref a0)]) hx hb dL_holds_309 hl (by decide) rfl (fun ls hl => ?_)
                  refine lv_iload hx hb dL_holds_311 (lv_at hl 4 rfl) ?_
                  have K313 : ∀ (v313_0 : Nat), v313_0 = (if (nI x293_5) = 0 then 0 else (if 2 ≤ (fL_bits ((fX6_tableNumber PN (nI kk268) 2) &&& (((1 : Int32) <<< (((fX1_itemAt 8 (PN 8) (PN 10 4) (nI kk293)) / 6) &&& 31)) ||| ((1 : Int32) <<< (((fX1_itemAt 8 (PN 8) (PN 10 4) (nI kk293)) - (fX1_itemAt 8 (PN 8) (PN 10 4) (nI kk293)) / 6 * 6) &&& 31))))) then 0 else 1)) → ∀ (ls : Array Slot), lv_has ls 11 [(8, .int (fX1_itemAt 8 (PN 8) (PN 10 4) (nI kk293))), (7, .int (nI kk293)), (4, .int (x268_4 + (fX6_tableNumber PN (nI kk268) 3))), (6, .int (nI kk268)), (5, .int (nI x293_5)), (3, .int x53_3), (2, .int x53_2), (1, .int x53_1), (0, .ref a0)] → W p l e rmL_holds s m args below meth c s.heap [] 0 0 Q (F0 m 351 ls [.int (nI v313_0)]) := by
                    intro v313_0 hz313  ls hl
                    have hz := hz313
                    have bz313 : (nI v313_0 : Int32) = 0 ∨ nI v313_0 = 1 := by rw [hz]; (try simp only [bd_eq]); (repeat' split); all_goals first | exact Or.inl rfl | exact Or.inr rfl
                    have hF := bd_at hF hz
                    refine lv_istore (lv' := [(5, .int (nI v313_0)), (8, .int (fX1_itemAt 8 (PN 8) (PN 10 4) (nI kk293))), (7, .int (nI kk293)), (4, .int (x268_4 + (fX6_tableNumber PN (nI kk268) 3))), (6, .int (nI kk268)), (3, .int x53_3), (2, .int x53_2), (1, .int x53_1), (0, .ref a0)]) hx hb dL_holds_351 hl (by decide) rfl (fun ls hl => ?_)
                    refine lv_iinc (v := (nI (kk293 + 1))) (lv' := [(7, .int (nI (kk293 + 1))), (5, .int (nI v313_0)), (8, .int (fX1_itemAt 8 (PN 8) (PN 10 4) (nI kk293))), (4, .int (x268_4 + (fX6_tableNumber PN (nI kk268) 3))), (6, .int (nI kk268)), (3, .int x53_3), (2, .int x53_2), (1, .int x53_1), (0, .ref a0)]) hx hb dL_holds_353 hl (k := 2) rfl (nI_1 _) (by decide) rfl (fun ls hl => ?_)
                    refine lv_goto (tgt := 293) hx hb dL_holds_356 (by decide) ?_
                    have hF : fL_holds PN = nextkk293 v313_0 := hF
                    rw [hnextkk293] at hF
                    exact ihkk293 jj293 (Nat.lt_succ_self _) (kk293 + 1) v313_0 (cn_next hkkk293) hF ls (lv_sub hl [0, 3, 4, 1, 5, 6, 7, 8] rfl)
                  have hF : ((if (nI x293_5) = 0 then 0 else (if 2 ≤ (fL_bits ((fX6_tableNumber PN (nI kk268) 2) &&& (((1 : Int32) <<< (((fX1_itemAt 8 (PN 8) (PN 10 4) (nI kk293)) / 6) &&& 31)) ||| ((1 : Int32) <<< (((fX1_itemAt 8 (PN 8) (PN 10 4) (nI kk293)) - (fX1_itemAt 8 (PN 8) (PN 10 4) (nI kk293)) / 6 * 6) &&& 31))))) then 0 else 1)) : Nat) = (if (nI x293_5) = 0 then 0 else (if 2 ≤ (fL_bits ((fX6_tableNumber PN (nI kk268) 2) &&& (((1 : Int32) <<< (((fX1_itemAt 8 (PN 8) (PN 10 4) (nI kk293)) / 6) &&& 31)) ||| ((1 : Int32) <<< (((fX1_itemAt 8 (PN 8) (PN 10 4) (nI kk293)) - (fX1_itemAt 8 (PN 8) (PN 10 4) (nI kk293)) / 6 * 6) &&& 31))))) then 0 else 1)) := rfl
                  refine lv_if_eq (tgt := 350) hx hb dL_holds_313 (by decide) (fun c_313 => ?_) (fun c_313 => ?_)
                  · have hF := hF.trans (if_pos c_313)
                    refine lv_iconst (v := 0) hx hb dL_holds_350 (by decide) ?_
                    exact K313 _ hF.symm  ls (lv_sub hl [0, 1, 2, 3, 4, 5, 6, 7, 8] rfl)
                  have hF := hF.trans (if_neg c_313)
                  refine lv_aload_n hx hb dL_holds_316 rfl (lv_at hl 8 rfl) ?_
                  refine lv_iload hx hb dL_holds_317 (lv_at hl 3 rfl) ?_
                  refine lv_iconst (v := 2) hx hb dL_holds_319 (by decide) ?_
                  have e_320 : (fX6_tableOf PN (nI kk268) 2) = Sum.inr ((fX6_tableNumber PN (nI kk268) 2), ()) := (tableOf_in hR (t := kk268) (w := 2) (by omega) (by omega))
                  refine k_calli (W.runV (As := [.int (nI kk268), .int 2]) (rest := []) ⟨hx, hb, hml, hown, hts0⟩ (mX6_tableOf l dC dI cI cP a0 aN aT aS t0 t1 t2 h0 h1 pa PN PT PS f u Ps oh vh k (nI kk268) 2 (ok_inr e_320)) (cwV 2 hts0 (gi_V u_391 u_392 u_393 u_1 u_394) rfl rfl rfl (by decide +kernel) ⟨Nat.le_of_ble_eq_true rfl, Nat.le_of_ble_eq_true rfl⟩) (pcR_V (ci := 4) (q0 := 0) hP hK hn rfl rfl) rfl rfl hl.1 rfl (lv_room (Nat.le_of_ble_eq_true rfl)) dL_holds_320 ⟨Nat.zero_le _, Nat.zero_le _⟩) ?_
                  refine lv_tope (y := (fX6_tableNumber PN (nI kk268) 2)) (ok1_inr e_320) ?_
                  refine lv_iconst (v := 1) hx hb dL_holds_323 (by decide) ?_
                  refine lv_iload hx hb dL_holds_324 (lv_at hl 0 rfl) ?_
                  refine lv_bipush (v := 6) hx hb dL_holds_326 (by decide) ?_
                  refine lv_idiv hx hb dL_holds_328 (by decide) ?_
                  refine lv_ishl hx hb dL_holds_329 ?_
                  refine lv_iconst (v := 1) hx hb dL_holds_330 (by decide) ?_
                  refine lv_iload hx hb dL_holds_331 (lv_at hl 0 rfl) ?_
                  refine lv_bipush (v := 6) hx hb dL_holds_333 (by decide) ?_
                  refine lv_irem hx hb dL_holds_335 (by decide) ?_
                  refine lv_ishl hx hb dL_holds_336 ?_
                  refine lv_ior hx hb dL_holds_337 ?_
                  refine lv_iand hx hb dL_holds_338 ?_
                  refine k_calli (W.runS (As := [.int ((fX6_tableNumber PN (nI kk268) 2) &&& (((1 : Int32) <<< (((fX1_itemAt 8 (PN 8) (PN 10 4) (nI kk293)) / 6) &&& 31)) ||| ((1 : Int32) <<< (((fX1_itemAt 8 (PN 8) (PN 10 4) (nI kk293)) - (fX1_itemAt 8 (PN 8) (PN 10 4) (nI kk293)) / 6 * 6) &&& 31))))]) (rest := []) ⟨hx, hb, hml, hown, hts0⟩ (mL_bits l dC dI  ((fX6_tableNumber PN (nI kk268) 2) &&& (((1 : Int32) <<< (((fX1_itemAt 8 (PN 8) (PN 10 4) (nI kk293)) / 6) &&& 31)) ||| ((1 : Int32) <<< (((fX1_itemAt 8 (PN 8) (PN 10 4) (nI kk293)) - (fX1_itemAt 8 (PN 8) (PN 10 4) (nI kk293)) / 6 * 6) &&& 31))))) (va_cwS 1 hts0 (gi_S u_634 u_635 u_0 u_636) rfl rfl rfl (by decide +kernel) ⟨Nat.le_of_ble_eq_true rfl, Nat.le_of_ble_eq_true rfl⟩) (pcR_S (hP.sub (ws' := []) [] rfl) (hK.sub (tys' := []) [] rfl) hn) rfl rfl hl.1 rfl (lv_room (Nat.le_of_ble_eq_true rfl)) dL_holds_339 ⟨Nat.zero_le _, Nat.zero_le _⟩) ?_
                  refine lv_iconst (v := 2) hx hb dL_holds_342 (by decide) ?_
                  refine lv_icmp_ge (tgt := 350) hx hb dL_holds_343 (by decide) (fun c_343 => ?_) (fun c_343 => ?_)
                  · have hF := hF.trans (if_pos c_343)
                    refine lv_iconst (v := 0) hx hb dL_holds_350 (by decide) ?_
                    exact K313 _ hF.symm  ls (lv_sub hl [0, 1, 2, 3, 4, 5, 6, 7, 8] rfl)
                  have hF := hF.trans (if_neg c_343)
                  refine lv_iconst (v := 1) hx hb dL_holds_346 (by decide) ?_
                  refine lv_goto (tgt := 351) hx hb dL_holds_347 (by decide) ?_
                  exact K313 _ hF.symm  ls (lv_sub hl [0, 1, 2, 3, 4, 5, 6, 7, 8] rfl)
              exact L293 ((PN 10 4).toNatClampNeg) 0 x268_5 (Nat.zero_add _) hF ls (lv_sub hl [0, 1, 2, 3, 4, 5, 6, 7] rfl)
          exact L268 ((PN 10 1).toNatClampNeg) 0 x53_5 0 (Nat.zero_add _) hF ls (lv_sub hl [0, 1, 2, 3, 4, 5, 6] rfl)
        obtain ⟨jj53, rfl⟩ := cn_go hkkk53 c_60
        have hF := hF.trans (lq4_s _ _ _ _ _ _ _ _)
        obtain ⟨nextkk53, hnextkk53⟩ : ∃ y9, y9 = lq4 (fL_holds_b53 PN) (fL_holds_r53 PN) jj53 (kk53 + 1) := ⟨_, rfl⟩
        rw [← hnextkk53] at hF
        have hN53 : (PN 10 0).toNatClampNeg = G := pg_n hR
        refine lv_aload_n hx hb dL_holds_63 rfl (lv_at hl 6 rfl) ?_
        refine lv_iload hx hb dL_holds_64 (lv_at hl 0 rfl) ?_
        refine lv_iconst (v := 3) hx hb dL_holds_66 (by decide) ?_
        have e_67 : (fX6_guestOf PN (nI kk53) 3) = Sum.inr ((fX6_guestNumber PN (nI kk53) 3), ()) := (guestOf_in hR (g := kk53) (w := 3) (by omega) (by omega))
        refine k_calli (W.runV (As := [.int (nI kk53), .int 3]) (rest := []) ⟨hx, hb, hml, hown, hts0⟩ (mX6_guestOf l dC dI cI cP a0 aN aT aS t0 t1 t2 h0 h1 pa PN PT PS f u Ps oh vh k (nI kk53) 3 (ok_inr e_67)) (cwV 2 hts0 (gi_V u_359 u_360 u_361 u_1 u_362) rfl rfl rfl (by decide +kernel) ⟨Nat.le_of_ble_eq_true rfl, Nat.le_of_ble_eq_true rfl⟩) (pcR_V (ci := 4) (q0 := 0) hP hK hn rfl rfl) rfl rfl hl.1 rfl (lv_room (Nat.le_of_ble_eq_true rfl)) dL_holds_67 ⟨Nat.zero_le _, Nat.zero_le _⟩) ?_
        refine lv_tope (y := (fX6_guestNumber PN (nI kk53) 3)) (ok1_inr e_67) ?_
        refine lv_istore (lv' := [(7, .int (fX6_guestNumber PN (nI kk53) 3)), (6, .int (nI kk53)), (5, .int (nI x53_5)), (4, .int 0), (3, .int x53_3), (2, .int x53_2), (1, .int x53_1), (0, .ref a0)]) hx hb dL_holds_70 hl (by decide) rfl (fun ls hl => ?_)
        refine lv_aload_n hx hb dL_holds_72 rfl (lv_at hl 7 rfl) ?_
        refine lv_iload hx hb dL_holds_73 (lv_at hl 1 rfl) ?_
        refine lv_iconst (v := 4) hx hb dL_holds_75 (by decide) ?_
        have e_76 : (fX6_guestOf PN (nI kk53) 4) = Sum.inr ((fX6_guestNumber PN (nI kk53) 4), ()) := (guestOf_in hR (g := kk53) (w := 4) (by omega) (by omega))
        refine k_calli (W.runV (As := [.int (nI kk53), .int 4]) (rest := []) ⟨hx, hb, hml, hown, hts0⟩ (mX6_guestOf l dC dI cI cP a0 aN aT aS t0 t1 t2 h0 h1 pa PN PT PS f u Ps oh vh k (nI kk53) 4 (ok_inr e_76)) (cwV 2 hts0 (gi_V u_359 u_360 u_361 u_1 u_362) rfl rfl rfl (by decide +kernel) ⟨Nat.le_of_ble_eq_true rfl, Nat.le_of_ble_eq_true rfl⟩) (pcR_V (ci := 4) (q0 := 0) hP hK hn rfl rfl) rfl rfl hl.1 rfl (lv_room (Nat.le_of_ble_eq_true rfl)) dL_holds_76 ⟨Nat.zero_le _, Nat.zero_le _⟩) ?_
        refine lv_tope (y := (fX6_guestNumber PN (nI kk53) 4)) (ok1_inr e_76) ?_
        refine lv_istore (lv' := [(8, .int (fX6_guestNumber PN (nI kk53) 4)), (7, .int (fX6_guestNumber PN (nI kk53) 3)), (6, .int (nI kk53)), (5, .int (nI x53_5)), (4, .int 0), (3, .int x53_3), (2, .int x53_2), (1, .int x53_1), (0, .ref a0)]) hx hb dL_holds_79 hl (by decide) rfl (fun ls hl => ?_)
        refine lv_aload_n hx hb dL_holds_81 rfl (lv_at hl 8 rfl) ?_
        refine lv_iload hx hb dL_holds_82 (lv_at hl 2 rfl) ?_
        refine lv_iconst (v := 2) hx hb dL_holds_84 (by decide) ?_
        have e_85 : (fX6_guestOf PN (nI kk53) 2) = Sum.inr ((fX6_guestNumber PN (nI kk53) 2), ()) := (guestOf_in hR (g := kk53) (w := 2) (by omega) (by omega))
        refine k_calli (W.runV (As := [.int (nI kk53), .int 2]) (rest := []) ⟨hx, hb, hml, hown, hts0⟩ (mX6_guestOf l dC dI cI cP a0 aN aT aS t0 t1 t2 h0 h1 pa PN PT PS f u Ps oh vh k (nI kk53) 2 (ok_inr e_85)) (cwV 2 hts0 (gi_V u_359 u_360 u_361 u_1 u_362) rfl rfl rfl (by decide +kernel) ⟨Nat.le_of_ble_eq_true rfl, Nat.le_of_ble_eq_true rfl⟩) (pcR_V (ci := 4) (q0 := 0) hP hK hn rfl rfl) rfl rfl hl.1 rfl (lv_room (Nat.le_of_ble_eq_true rfl)) dL_holds_85 ⟨Nat.zero_le _, Nat.zero_le _⟩) ?_
        refine lv_tope (y := (fX6_guestNumber PN (nI kk53) 2)) (ok1_inr e_85) ?_
        refine lv_istore (lv' := [(9, .int (fX6_guestNumber PN (nI kk53) 2)), (8, .int (fX6_guestNumber PN (nI kk53) 4)), (7, .int (fX6_guestNumber PN (nI kk53) 3)), (6, .int (nI kk53)), (5, .int (nI x53_5)), (4, .int 0), (3, .int x53_3), (2, .int x53_2), (1, .int x53_1), (0, .ref a0)]) hx hb dL_holds_88 hl (by decide) rfl (fun ls hl => ?_)
        refine lv_aload_n hx hb dL_holds_90 rfl (lv_at hl 9 rfl) ?_
        refine lv_iload hx hb dL_holds_91 (lv_at hl 3 rfl) ?_
        refine lv_iconst (v := 5) hx hb dL_holds_93 (by decide) ?_
        have e_94 : (fX6_guestOf PN (nI kk53) 5) = Sum.inr ((fX6_guestNumber PN (nI kk53) 5), ()) := (guestOf_in hR (g := kk53) (w := 5) (by omega) (by omega))
        refine k_calli (W.runV (As := [.int (nI kk53), .int 5]) (rest := []) ⟨hx, hb, hml, hown, hts0⟩ (mX6_guestOf l dC dI cI cP a0 aN aT aS t0 t1 t2 h0 h1 pa PN PT PS f u Ps oh vh k (nI kk53) 5 (ok_inr e_94)) (cwV 2 hts0 (gi_V u_359 u_360 u_361 u_1 u_362) rfl rfl rfl (by decide +kernel) ⟨Nat.le_of_ble_eq_true rfl, Nat.le_of_ble_eq_true rfl⟩) (pcR_V (ci := 4) (q0 := 0) hP hK hn rfl rfl) rfl rfl hl.1 rfl (lv_room (Nat.le_of_ble_eq_true rfl)) dL_holds_94 ⟨Nat.zero_le _, Nat.zero_le _⟩) ?_
        refine lv_tope (y := (fX6_guestNumber PN (nI kk53) 5)) (ok1_inr e_94) ?_
        refine lv_istore (lv' := [(10, .int (fX6_guestNumber PN (nI kk53) 5)), (9, .int (fX6_guestNumber PN (nI kk53) 2)), (8, .int (fX6_guestNumber PN (nI kk53) 4)), (7, .int (fX6_guestNumber PN (nI kk53) 3)), (6, .int (nI kk53)), (5, .int (nI x53_5)), (4, .int 0), (3, .int x53_3), (2, .int x53_2), (1, .int x53_1), (0, .ref a0)]) hx hb dL_holds_97 hl (by decide) rfl (fun ls hl => ?_)
        refine lv_iload_n hx hb dL_holds_99 rfl (lv_at hl 9 rfl) ?_
        refine lv_aload_n hx hb dL_holds_100 rfl (lv_at hl 10 rfl) ?_
        refine lv_iload hx hb dL_holds_101 (lv_at hl 4 rfl) ?_
        refine lv_bipush (v := 6) hx hb dL_holds_103 (by decide) ?_
        have e_105 : (fX6_guestOf PN (nI kk53) 6) = Sum.inr ((fX6_guestNumber PN (nI kk53) 6), ()) := (guestOf_in hR (g := kk53) (w := 6) (by omega) (by omega))
        refine k_calli (W.runV (As := [.int (nI kk53), .int 6]) (rest := [.int x53_1]) ⟨hx, hb, hml, hown, hts0⟩ (mX6_guestOf l dC dI cI cP a0 aN aT aS t0 t1 t2 h0 h1 pa PN PT PS f u Ps oh vh k (nI kk53) 6 (ok_inr e_105)) (cwV 2 hts0 (gi_V u_359 u_360 u_361 u_1 u_362) rfl rfl rfl (by decide +kernel) ⟨Nat.le_of_ble_eq_true rfl, Nat.le_of_ble_eq_true rfl⟩) (pcR_V (ci := 4) (q0 := 0) hP hK hn rfl rfl) rfl rfl hl.1 rfl (lv_room (Nat.le_of_ble_eq_true rfl)) dL_holds_105 ⟨Nat.zero_le _, Nat.zero_le _⟩) ?_
        refine lv_tope (y := (fX6_guestNumber PN (nI kk53) 6)) (ok1_inr e_105) ?_
        refine lv_iadd hx hb dL_holds_108 ?_
        refine lv_istore_n (lv' := [(1, .int (x53_1 + (fX6_guestNumber PN (nI kk53) 6))), (10, .int (fX6_guestNumber PN (nI kk53) 5)), (9, .int (fX6_guestNumber PN (nI kk53) 2)), (8, .int (fX6_guestNumber PN (nI kk53) 4)), (7, .int (fX6_guestNumber PN (nI kk53) 3)), (6, .int (nI kk53)), (5, .int (nI x53_5)), (4, .int 0), (3, .int x53_3), (2, .int x53_2), (0, .ref a0)]) hx hb dL_holds_109 rfl hl (by decide) rfl (fun ls hl => ?_)
        refine lv_iload_n hx hb dL_holds_110 rfl (lv_at hl 9 rfl) ?_
        refine lv_iload hx hb dL_holds_111 (lv_at hl 1 rfl) ?_
        have K113 : ∀ (v113_0 : Nat), v113_0 = (if (fX6_guestNumber PN (nI kk53) 5) ≤ 0 then 0 else 1) → ∀ (ls : Array Slot), lv_has ls 11 [(1, .int (x53_1 + (fX6_guestNumber PN (nI kk53) 6))), (10, .int (fX6_guestNumber PN (nI kk53) 5)), (9, .int (fX6_guestNumber PN (nI kk53) 2)), (8, .int (fX6_guestNumber PN (nI kk53) 4)), (7, .int (fX6_guestNumber PN (nI kk53) 3)), (6, .int (nI kk53)), (5, .int (nI x53_5)), (4, .int 0), (3, .int x53_3), (2, .int x53_2), (0, .ref a0)] → W p l e rmL_holds s m args below meth c s.heap [] 0 0 Q (F0 m 121 ls [.int (nI v113_0), .int x53_2]) := by
          intro v113_0 hz113  ls hl
          have hz := hz113
          have bz113 : (nI v113_0 : Int32) = 0 ∨ nI v113_0 = 1 := by rw [hz]; (try simp only [bd_eq]); (repeat' split); all_goals first | exact Or.inl rfl | exact Or.inr rfl
          have hF := bd_at hF hz
          refine lv_iadd hx hb dL_holds_121 ?_
          refine lv_istore_n (lv' := [(2, .int (x53_2 + (nI v113_0))), (1, .int (x53_1 + (fX6_guestNumber PN (nI kk53) 6))), (10, .int (fX6_guestNumber PN (nI kk53) 5)), (9, .int (fX6_guestNumber PN (nI kk53) 2)), (8, .int (fX6_guestNumber PN (nI kk53) 4)), (7, .int (fX6_guestNumber PN (nI kk53) 3)), (6, .int (nI kk53)), (5, .int (nI x53_5)), (4, .int 0), (3, .int x53_3), (0, .ref a0)]) hx hb dL_holds_122 rfl hl (by decide) rfl (fun ls hl => ?_)
          refine lv_iload_n hx hb dL_holds_123 rfl (lv_at hl 9 rfl) ?_
          refine lv_iload hx hb dL_holds_124 (lv_at hl 5 rfl) ?_
          refine lv_iconst (v := (-1)) hx hb dL_holds_126 (by decide) ?_
          have K127 : ∀ (v127_0 : Nat), v127_0 = (if (fX6_guestNumber PN (nI kk53) 3) = (-1) then 0 else 1) → ∀ (ls : Array Slot), lv_has ls 11 [(2, .int (x53_2 + (nI v113_0))), (1, .int (x53_1 + (fX6_guestNumber PN (nI kk53) 6))), (10, .int (fX6_guestNumber PN (nI kk53) 5)), (9, .int (fX6_guestNumber PN (nI kk53) 2)), (8, .int (fX6_guestNumber PN (nI kk53) 4)), (7, .int (fX6_guestNumber PN (nI kk53) 3)), (6, .int (nI kk53)), (5, .int (nI x53_5)), (4, .int 0), (3, .int x53_3), (0, .ref a0)] → W p l e rmL_holds s m args below meth c s.heap [] 0 0 Q (F0 m 135 ls [.int (nI v127_0), .int x53_3]) := by
            intro v127_0 hz127  ls hl
            have hz := hz127
            have bz127 : (nI v127_0 : Int32) = 0 ∨ nI v127_0 = 1 := by rw [hz]; (try simp only [bd_eq]); (repeat' split); all_goals first | exact Or.inl rfl | exact Or.inr rfl
            have hF := bd_at hF hz
            refine lv_iadd hx hb dL_holds_135 ?_
            refine lv_istore_n (lv' := [(3, .int (x53_3 + (nI v127_0))), (2, .int (x53_2 + (nI v113_0))), (1, .int (x53_1 + (fX6_guestNumber PN (nI kk53) 6))), (10, .int (fX6_guestNumber PN (nI kk53) 5)), (9, .int (fX6_guestNumber PN (nI kk53) 2)), (8, .int (fX6_guestNumber PN (nI kk53) 4)), (7, .int (fX6_guestNumber PN (nI kk53) 3)), (6, .int (nI kk53)), (5, .int (nI x53_5)), (4, .int 0), (0, .ref a0)]) hx hb dL_holds_136 rfl hl (by decide) rfl (fun ls hl => ?_)
            refine lv_iload hx hb dL_holds_137 (lv_at hl 8 rfl) ?_
            have K139 : ∀ (v139_0 : Nat), v139_0 = (if (nI x53_5) = 0 then 0 else (bd ((if (fX6_guestNumber PN (nI kk53) 3) = (-1) then 1 else 0) : Nat) (fun v145_0 => (bd ((if (fX6_guestNumber PN (nI kk53) 4) = (-1) then 1 else 0) : Nat) (fun v156_0 => (if (nI v145_0) = (nI v156_0) then (if (fX6_guestNumber PN (nI kk53) 3) = (-1) then (if (fX6_guestNumber PN (nI kk53) 6) = 0 then (if (fX6_guestNumber PN (nI kk53) 5) = 0 then (if (fX6_guestNumber PN (nI kk53) 1) < 3 then (if (fX6_guestNumber PN (nI kk53) 5) = 0 then 1 else (if (fX6_guestNumber PN (nI kk53) 2) = (-1) then 0 else (if (fX6_guestNumber PN (nI kk53) 3) = (fX6_guestNumber PN (fX6_guestNumber PN (nI kk53) 2) 3) then 1 else 0))) else (if (fX6_guestNumber PN (nI kk53) 4) = (-1) then (if (fX6_guestNumber PN (nI kk53) 5) = 0 then 1 else (if (fX6_guestNumber PN (nI kk53) 2) = (-1) then 0 else (if (fX6_guestNumber PN (nI kk53) 3) = (fX6_guestNumber PN (fX6_guestNumber PN (nI kk53) 2) 3) then 1 else 0))) else (if ((fX6_guestNumber PN (nI kk53) 4) - (fX6_guestNumber PN (nI kk53) 4) / 3 * 3) ≤ 0 then 0 else (if (fX6_guestNumber PN (nI kk53) 5) = 0 then 1 else (if (fX6_guestNumber PN (nI kk53) 2) = (-1) then 0 else (if (fX6_guestNumber PN (nI kk53) 3) = (fX6_guestNumber PN (fX6_guestNumber PN (nI kk53) 2) 3) then 1 else 0)))))) else 0) else 0) else (if (fX2_holderAt PN (fX6_guestNumber PN (nI kk53) 3) (fX6_guestNumber PN (nI kk53) 4)) = (nI kk53) then (if (fX6_guestNumber PN (nI kk53) 1) < 3 then (if (fX6_guestNumber PN (nI kk53) 5) = 0 then 1 else (if (fX6_guestNumber PN (nI kk53) 2) = (-1) then 0 else (if (fX6_guestNumber PN (nI kk53) 3) = (fX6_guestNumber PN (fX6_guestNumber PN (nI kk53) 2) 3) then 1 else 0))) else (if (fX6_guestNumber PN (nI kk53) 4) = (-1) then (if (fX6_guestNumber PN (nI kk53) 5) = 0 then 1 else (if (fX6_guestNumber PN (nI kk53) 2) = (-1) then 0 else (if (fX6_guestNumber PN (nI kk53) 3) = (fX6_guestNumber PN (fX6_guestNumber PN (nI kk53) 2) 3) then 1 else 0))) else (if ((fX6_guestNumber PN (nI kk53) 4) - (fX6_guestNumber PN (nI kk53) 4) / 3 * 3) ≤ 0 then 0 else (if (fX6_guestNumber PN (nI kk53) 5) = 0 then 1 else (if (fX6_guestNumber PN (nI kk53) 2) = (-1) then 0 else (if (fX6_guestNumber PN (nI kk53) 3) = (fX6_guestNumber PN (fX6_guestNumber PN (nI kk53) 2) 3) then 1 else 0)))))) else 0)) else 0)))))) → ∀ (ls : Array Slot), lv_has ls 11 [(3, .int (x53_3 + (nI v127_0))), (2, .int (x53_2 + (nI v113_0))), (1, .int (x53_1 + (fX6_guestNumber PN (nI kk53) 6))), (10, .int (fX6_guestNumber PN (nI kk53) 5)), (9, .int (fX6_guestNumber PN (nI kk53) 2)), (8, .int (fX6_guestNumber PN (nI kk53) 4)), (7, .int (fX6_guestNumber PN (nI kk53) 3)), (6, .int (nI kk53)), (5, .int (nI x53_5)), (4, .int 0), (0, .ref a0)] → W p l e rmL_holds s m args below meth c s.heap [] 0 0 Q (F0 m 257 ls [.int (nI v139_0)]) := by
              intro v139_0 hz139  ls hl
              have hz := hz139
              have bz139 : (nI v139_0 : Int32) = 0 ∨ nI v139_0 = 1 := by rw [hz]; (try simp only [bd_eq]); (repeat' split); all_goals first | exact Or.inl rfl | exact Or.inr rfl
              have hF := bd_at hF hz
              refine lv_istore (lv' := [(5, .int (nI v139_0)), (3, .int (x53_3 + (nI v127_0))), (2, .int (x53_2 + (nI v113_0))), (1, .int (x53_1 + (fX6_guestNumber PN (nI kk53) 6))), (10, .int (fX6_guestNumber PN (nI kk53) 5)), (9, .int (fX6_guestNumber PN (nI kk53) 2)), (8, .int (fX6_guestNumber PN (nI kk53) 4)), (7, .int (fX6_guestNumber PN (nI kk53) 3)), (6, .int (nI kk53)), (4, .int 0), (0, .ref a0)]) hx hb dL_holds_257 hl (by decide) rfl (fun ls hl => ?_)
              refine lv_iinc (v := (nI (kk53 + 1))) (lv' := [(6, .int (nI (kk53 + 1))), (5, .int (nI v139_0)), (3, .int (x53_3 + (nI v127_0))), (2, .int (x53_2 + (nI v113_0))), (1, .int (x53_1 + (fX6_guestNumber PN (nI kk53) 6))), (10, .int (fX6_guestNumber PN (nI kk53) 5)), (9, .int (fX6_guestNumber PN (nI kk53) 2)), (8, .int (fX6_guestNumber PN (nI kk53) 4)), (7, .int (fX6_guestNumber PN (nI kk53) 3)), (4, .int 0), (0, .ref a0)]) hx hb dL_holds_259 hl (k := 8) rfl (nI_1 _) (by decide) rfl (fun ls hl => ?_)
              refine lv_goto (tgt := 53) hx hb dL_holds_262 (by decide) ?_
              have hF : fL_holds PN = nextkk53 v139_0 (x53_3 + (nI v127_0)) (x53_2 + (nI v113_0)) (x53_1 + (fX6_guestNumber PN (nI kk53) 6)) := hF
              rw [hnextkk53] at hF
              exact ihkk53 jj53 (Nat.lt_succ_self _) (kk53 + 1) v139_0 (x53_3 + (nI v127_0)) (x53_2 + (nI v113_0)) (x53_1 + (fX6_guestNumber PN (nI kk53) 6)) (cn_next hkkk53) hF ls (lv_sub hl [0, 1, 9, 2, 3, 4, 10] rfl)
            have hF : ((if (nI x53_5) = 0 then 0 else (bd ((if (fX6_guestNumber PN (nI kk53) 3) = (-1) then 1 else 0) : Nat) (fun v145_0 => (bd ((if (fX6_guestNumber PN (nI kk53) 4) = (-1) then 1 else 0) : Nat) (fun v156_0 => (if (nI v145_0) = (nI v156_0) then (if (fX6_guestNumber PN (nI kk53) 3) = (-1) then (if (fX6_guestNumber PN (nI kk53) 6) = 0 then (if (fX6_guestNumber PN (nI kk53) 5) = 0 then (if (fX6_guestNumber PN (nI kk53) 1) < 3 then (if (fX6_guestNumber PN (nI kk53) 5) = 0 then 1 else (if (fX6_guestNumber PN (nI kk53) 2) = (-1) then 0 else (if (fX6_guestNumber PN (nI kk53) 3) = (fX6_guestNumber PN (fX6_guestNumber PN (nI kk53) 2) 3) then 1 else 0))) else (if (fX6_guestNumber PN (nI kk53) 4) = (-1) then (if (fX6_guestNumber PN (nI kk53) 5) = 0 then 1 else (if (fX6_guestNumber PN (nI kk53) 2) = (-1) then 0 else (if (fX6_guestNumber PN (nI kk53) 3) = (fX6_guestNumber PN (fX6_guestNumber PN (nI kk53) 2) 3) then 1 else 0))) else (if ((fX6_guestNumber PN (nI kk53) 4) - (fX6_guestNumber PN (nI kk53) 4) / 3 * 3) ≤ 0 then 0 else (if (fX6_guestNumber PN (nI kk53) 5) = 0 then 1 else (if (fX6_guestNumber PN (nI kk53) 2) = (-1) then 0 else (if (fX6_guestNumber PN (nI kk53) 3) = (fX6_guestNumber PN (fX6_guestNumber PN (nI kk53) 2) 3) then 1 else 0)))))) else 0) else 0) else (if (fX2_holderAt PN (fX6_guestNumber PN (nI kk53) 3) (fX6_guestNumber PN (nI kk53) 4)) = (nI kk53) then (if (fX6_guestNumber PN (nI kk53) 1) < 3 then (if (fX6_guestNumber PN (nI kk53) 5) = 0 then 1 else (if (fX6_guestNumber PN (nI kk53) 2) = (-1) then 0 else (if (fX6_guestNumber PN (nI kk53) 3) = (fX6_guestNumber PN (fX6_guestNumber PN (nI kk53) 2) 3) then 1 else 0))) else (if (fX6_guestNumber PN (nI kk53) 4) = (-1) then (if (fX6_guestNumber PN (nI kk53) 5) = 0 then 1 else (if (fX6_guestNumber PN (nI kk53) 2) = (-1) then 0 else (if (fX6_guestNumber PN (nI kk53) 3) = (fX6_guestNumber PN (fX6_guestNumber PN (nI kk53) 2) 3) then 1 else 0))) else (if ((fX6_guestNumber PN (nI kk53) 4) - (fX6_guestNumber PN (nI kk53) 4) / 3 * 3) ≤ 0 then 0 else (if (fX6_guestNumber PN (nI kk53) 5) = 0 then 1 else (if (fX6_guestNumber PN (nI kk53) 2) = (-1) then 0 else (if (fX6_guestNumber PN (nI kk53) 3) = (fX6_guestNumber PN (fX6_guestNumber PN (nI kk53) 2) 3) then 1 else 0)))))) else 0)) else 0)))))) : Nat) = (if (nI x53_5) = 0 then 0 else (bd ((if (fX6_guestNumber PN (nI kk53) 3) = (-1) then 1 else 0) : Nat) (fun v145_0 => (bd ((if (fX6_guestNumber PN (nI kk53) 4) = (-1) then 1 else 0) : Nat) (fun v156_0 => (if (nI v145_0) = (nI v156_0) then (if (fX6_guestNumber PN (nI kk53) 3) = (-1) then (if (fX6_guestNumber PN (nI kk53) 6) = 0 then (if (fX6_guestNumber PN (nI kk53) 5) = 0 then (if (fX6_guestNumber PN (nI kk53) 1) < 3 then (if (fX6_guestNumber PN (nI kk53) 5) = 0 then 1 else (if (fX6_guestNumber PN (nI kk53) 2) = (-1) then 0 else (if (fX6_guestNumber PN (nI kk53) 3) = (fX6_guestNumber PN (fX6_guestNumber PN (nI kk53) 2) 3) then 1 else 0))) else (if (fX6_guestNumber PN (nI kk53) 4) = (-1) then (if (fX6_guestNumber PN (nI kk53) 5) = 0 then 1 else (if (fX6_guestNumber PN (nI kk53) 2) = (-1) then 0 else (if (fX6_guestNumber PN (nI kk53) 3) = (fX6_guestNumber PN (fX6_guestNumber PN (nI kk53) 2) 3) then 1 else 0))) else (if ((fX6_guestNumber PN (nI kk53) 4) - (fX6_guestNumber PN (nI kk53) 4) / 3 * 3) ≤ 0 then 0 else (if (fX6_guestNumber PN (nI kk53) 5) = 0 then 1 else (if (fX6_guestNumber PN (nI kk53) 2) = (-1) then 0 else (if (fX6_guestNumber PN (nI kk53) 3) = (fX6_guestNumber PN (fX6_guestNumber PN (nI kk53) 2) 3) then 1 else 0)))))) else 0) else 0) else (if (fX2_holderAt PN (fX6_guestNumber PN (nI kk53) 3) (fX6_guestNumber PN (nI kk53) 4)) = (nI kk53) then (if (fX6_guestNumber PN (nI kk53) 1) < 3 then (if (fX6_guestNumber PN (nI kk53) 5) = 0 then 1 else (if (fX6_guestNumber PN (nI kk53) 2) = (-1) then 0 else (if (fX6_guestNumber PN (nI kk53) 3) = (fX6_guestNumber PN (fX6_guestNumber PN (nI kk53) 2) 3) then 1 else 0))) else (if (fX6_guestNumber PN (nI kk53) 4) = (-1) then (if (fX6_guestNumber PN (nI kk53) 5) = 0 then 1 else (if (fX6_guestNumber PN (nI kk53) 2) = (-1) then 0 else (if (fX6_guestNumber PN (nI kk53) 3) = (fX6_guestNumber PN (fX6_guestNumber PN (nI kk53) 2) 3) then 1 else 0))) else (if ((fX6_guestNumber PN (nI kk53) 4) - (fX6_guestNumber PN (nI kk53) 4) / 3 * 3) ≤ 0 then 0 else (if (fX6_guestNumber PN (nI kk53) 5) = 0 then 1 else (if (fX6_guestNumber PN (nI kk53) 2) = (-1) then 0 else (if (fX6_guestNumber PN (nI kk53) 3) = (fX6_guestNumber PN (fX6_guestNumber PN (nI kk53) 2) 3) then 1 else 0)))))) else 0)) else 0)))))) := rfl
            refine lv_if_eq (tgt := 256) hx hb dL_holds_139 (by decide) (fun c_139 => ?_) (fun c_139 => ?_)
            · have hF := hF.trans (if_pos c_139)
              refine lv_iconst (v := 0) hx hb dL_holds_256 (by decide) ?_
              exact K139 _ hF.symm  ls (lv_sub hl [0, 1, 2, 3, 4, 5, 6, 7, 8, 9, 10] rfl)
            have hF := hF.trans (if_neg c_139)
            refine lv_iload hx hb dL_holds_142 (lv_at hl 6 rfl) ?_
            refine lv_iconst (v := (-1)) hx hb dL_holds_144 (by decide) ?_
            have K145 : ∀ (v145_0 : Nat), v145_0 = (if (fX6_guestNumber PN (nI kk53) 3) = (-1) then 1 else 0) → ∀ (ls : Array Slot), lv_has ls 11 [(3, .int (x53_3 + (nI v127_0))), (2, .int (x53_2 + (nI v113_0))), (1, .int (x53_1 + (fX6_guestNumber PN (nI kk53) 6))), (10, .int (fX6_guestNumber PN (nI kk53) 5)), (9, .int (fX6_guestNumber PN (nI kk53) 2)), (8, .int (fX6_guestNumber PN (nI kk53) 4)), (7, .int (fX6_guestNumber PN (nI kk53) 3)), (6, .int (nI kk53)), (5, .int (nI x53_5)), (4, .int 0), (0, .ref a0)] → W p l e rmL_holds s m args below meth c s.heap [] 0 0 Q (F0 m 153 ls [.int (nI v145_0)]) := by
              intro v145_0 hz145  ls hl
              have hz := hz145
              have bz145 : (nI v145_0 : Int32) = 0 ∨ nI v145_0 = 1 := by rw [hz]; (try simp only [bd_eq]); (repeat' split); all_goals first | exact Or.inl rfl | exact Or.inr rfl
              have hF := bd_at hF hz
              refine lv_iload hx hb dL_holds_153 (lv_at hl 5 rfl) ?_
              refine lv_iconst (v := (-1)) hx hb dL_holds_155 (by decide) ?_
              have K156 : ∀ (v156_0 : Nat), v156_0 = (if (fX6_guestNumber PN (nI kk53) 4) = (-1) then 1 else 0) → ∀ (ls : Array Slot), lv_has ls 11 [(3, .int (x53_3 + (nI v127_0))), (2, .int (x53_2 + (nI v113_0))), (1, .int (x53_1 + (fX6_guestNumber PN (nI kk53) 6))), (10, .int (fX6_guestNumber PN (nI kk53) 5)), (9, .int (fX6_guestNumber PN (nI kk53) 2)), (8, .int (fX6_guestNumber PN (nI kk53) 4)), (7, .int (fX6_guestNumber PN (nI kk53) 3)), (6, .int (nI kk53)), (5, .int (nI x53_5)), (4, .int 0), (0, .ref a0)] → W p l e rmL_holds s m args below meth c s.heap [] 0 0 Q (F0 m 164 ls [.int (nI v156_0), .int (nI v145_0)]) := by
                intro v156_0 hz156  ls hl
                have hz := hz156
                have bz156 : (nI v156_0 : Int32) = 0 ∨ nI v156_0 = 1 := by rw [hz]; (try simp only [bd_eq]); (repeat' split); all_goals first | exact Or.inl rfl | exact Or.inr rfl
                have hF := bd_at hF hz
                refine lv_icmp_ne (tgt := 256) hx hb dL_holds_164 (by decide) (fun c_164 => ?_) (fun c_164 => ?_)
                · have hF := hF.trans (if_neg c_164)
                  refine lv_iconst (v := 0) hx hb dL_holds_256 (by decide) ?_
                  exact K139 _ hF.symm  ls (lv_sub hl [0, 1, 2, 3, 4, 5, 6, 7, 8, 9, 10] rfl)
                have hF := hF.trans (if_pos c_164)
                refine lv_iload hx hb dL_holds_167 (lv_at hl 6 rfl) ?_
                refine lv_iconst (v := (-1)) hx hb dL_holds_169 (by decide) ?_
                refine lv_icmp_ne (tgt := 192) hx hb dL_holds_170 (by decide) (fun c_170 => ?_) (fun c_170 => ?_)
                · have hF := hF.trans (if_neg c_170)
                  refine lv_aload_n hx hb dL_holds_192 rfl (lv_at hl 10 rfl) ?_
                  refine lv_iload hx hb dL_holds_193 (lv_at hl 6 rfl) ?_
                  refine lv_iload hx hb dL_holds_195 (lv_at hl 5 rfl) ?_
                  have e_197 : (fX6_who PN (fX6_guestNumber PN (nI kk53) 3) (fX6_guestNumber PN (nI kk53) 4)) = Sum.inr ((fX2_holderAt PN (fX6_guestNumber PN (nI kk53) 3) (fX6_guestNumber PN (nI kk53) 4)), ()) := (who_sit hR (g := kk53) (by omega) c_170)
                  refine k_calli (W.runV (As := [.int (fX6_guestNumber PN (nI kk53) 3), .int (fX6_guestNumber PN (nI kk53) 4)]) (rest := []) ⟨hx, hb, hml, hown, hts0⟩ (mX6_who l dC dI cI cP a0 aN aT aS t0 t1 t2 h0 h1 pa PN PT PS f u Ps oh vh k (fX6_guestNumber PN (nI kk53) 3) (fX6_guestNumber PN (nI kk53) 4) (ok_inr e_197)) (cwV 2 hts0 (gi_V u_629 u_630 u_631 u_1 u_632) rfl rfl rfl (by decide +kernel) ⟨Nat.le_of_ble_eq_true rfl, Nat.le_of_ble_eq_true rfl⟩) (pcR_V (ci := 4) (q0 := 0) hP hK hn rfl rfl) rfl rfl hl.1 rfl (lv_room (Nat.le_of_ble_eq_true rfl)) dL_holds_197 ⟨Nat.zero_le _, Nat.zero_le _⟩) ?_
                  refine lv_tope (y := (fX2_holderAt PN (fX6_guestNumber PN (nI kk53) 3) (fX6_guestNumber PN (nI kk53) 4))) (ok1_inr e_197) ?_
                  refine lv_iload hx hb dL_holds_200 (lv_at hl 7 rfl) ?_
                  refine lv_icmp_ne (tgt := 256) hx hb dL_holds_202 (by decide) (fun c_202 => ?_) (fun c_202 => ?_)
                  · have hF := hF.trans (if_neg c_202)
                    refine lv_iconst (v := 0) hx hb dL_holds_256 (by decide) ?_
                    exact K139 _ hF.symm  ls (lv_sub hl [0, 1, 2, 3, 4, 5, 6, 7, 8, 9, 10] rfl)
                  have hF := hF.trans (if_pos c_202)
                  refine lv_aload_n hx hb dL_holds_205 rfl (lv_at hl 10 rfl) ?_
                  refine lv_iload hx hb dL_holds_206 (lv_at hl 7 rfl) ?_
                  refine lv_iconst (v := 1) hx hb dL_holds_208 (by decide) ?_
                  have e_209 : (fX6_guestOf PN (nI kk53) 1) = Sum.inr ((fX6_guestNumber PN (nI kk53) 1), ()) := (guestOf_in hR (g := kk53) (w := 1) (by omega) (by omega))
                  refine k_calli (W.runV (As := [.int (nI kk53), .int 1]) (rest := []) ⟨hx, hb, hml, hown, hts0⟩ (mX6_guestOf l dC dI cI cP a0 aN aT aS t0 t1 t2 h0 h1 pa PN PT PS f u Ps oh vh k (nI kk53) 1 (ok_inr e_209)) (cwV 2 hts0 (gi_V u_359 u_360 u_361 u_1 u_362) rfl rfl rfl (by decide +kernel) ⟨Nat.le_of_ble_eq_true rfl, Nat.le_of_ble_eq_true rfl⟩) (pcR_V (ci := 4) (q0 := 0) hP hK hn rfl rfl) rfl rfl hl.1 rfl (lv_room (Nat.le_of_ble_eq_true rfl)) dL_holds_209 ⟨Nat.zero_le _, Nat.zero_le _⟩) ?_
                  refine lv_tope (y := (fX6_guestNumber PN (nI kk53) 1)) (ok1_inr e_209) ?_
                  refine lv_iconst (v := 3) hx hb dL_holds_212 (by decide) ?_
                  refine lv_icmp_lt (tgt := 229) hx hb dL_holds_213 (by decide) (fun c_213 => ?_) (fun c_213 => ?_)
                  · have hF := hF.trans (if_pos c_213)
                    refine lv_iload hx hb dL_holds_229 (lv_at hl 3 rfl) ?_
                    refine lv_if_eq (tgt := 252) hx hb dL_holds_231 (by decide) (fun c_231 => ?_) (fun c_231 => ?_)
                    · have hF := hF.trans (if_pos c_231)
                      refine lv_iconst (v := 1) hx hb dL_holds_252 (by decide) ?_
                      refine lv_goto (tgt := 257) hx hb dL_holds_253 (by decide) ?_
                      exact K139 _ hF.symm  ls (lv_sub hl [0, 1, 2, 3, 4, 5, 6, 7, 8, 9, 10] rfl)
                    have hF := hF.trans (if_neg c_231)
                    refine lv_iload hx hb dL_holds_234 (lv_at hl 4 rfl) ?_
                    refine lv_iconst (v := (-1)) hx hb dL_holds_236 (by decide) ?_
                    refine lv_icmp_eq (tgt := 256) hx hb dL_holds_237 (by decide) (fun c_237 => ?_) (fun c_237 => ?_)
                    · have hF := hF.trans (if_pos c_237)
                      refine lv_iconst (v := 0) hx hb dL_holds_256 (by decide) ?_
                      exact K139 _ hF.symm  ls (lv_sub hl [0, 1, 2, 3, 4, 5, 6, 7, 8, 9, 10] rfl)
                    have hF := hF.trans (if_neg c_237)
                    refine lv_iload hx hb dL_holds_240 (lv_at hl 6 rfl) ?_
                    refine lv_aload_n hx hb dL_holds_242 rfl (lv_at hl 10 rfl) ?_
                    refine lv_iload hx hb dL_holds_243 (lv_at hl 4 rfl) ?_
                    refine lv_iconst (v := 3) hx hb dL_holds_245 (by decide) ?_
                    have e_246 : (fX6_guestOf PN (fX6_guestNumber PN (nI kk53) 2) 3) = Sum.inr ((fX6_guestNumber PN (fX6_guestNumber PN (nI kk53) 2) 3), ()) := (wish_in hR (g := kk53) (by omega) c_237)
                    refine k_calli (W.runV (As := [.int (fX6_guestNumber PN (nI kk53) 2), .int 3]) (rest := [.int (fX6_guestNumber PN (nI kk53) 3)]) ⟨hx, hb, hml, hown, hts0⟩ (mX6_guestOf l dC dI cI cP a0 aN aT aS t0 t1 t2 h0 h1 pa PN PT PS f u Ps oh vh k (fX6_guestNumber PN (nI kk53) 2) 3 (ok_inr e_246)) (cwV 2 hts0 (gi_V u_359 u_360 u_361 u_1 u_362) rfl rfl rfl (by decide +kernel) ⟨Nat.le_of_ble_eq_true rfl, Nat.le_of_ble_eq_true rfl⟩) (pcR_V (ci := 4) (q0 := 0) hP hK hn rfl rfl) rfl rfl hl.1 rfl (lv_room (Nat.le_of_ble_eq_true rfl)) dL_holds_246 ⟨Nat.zero_le _, Nat.zero_le _⟩) ?_
                    refine lv_tope (y := (fX6_guestNumber PN (fX6_guestNumber PN (nI kk53) 2) 3)) (ok1_inr e_246) ?_
                    refine lv_icmp_ne (tgt := 256) hx hb dL_holds_249 (by decide) (fun c_249 => ?_) (fun c_249 => ?_)
                    · have hF := hF.trans (if_neg c_249)
                      refine lv_iconst (v := 0) hx hb dL_holds_256 (by decide) ?_
                      exact K139 _ hF.symm  ls (lv_sub hl [0, 1, 2, 3, 4, 5, 6, 7, 8, 9, 10] rfl)
                    have hF := hF.trans (if_pos c_249)
                    refine lv_iconst (v := 1) hx hb dL_holds_252 (by decide) ?_
                    refine lv_goto (tgt := 257) hx hb dL_holds_253 (by decide) ?_
                    exact K139 _ hF.symm  ls (lv_sub hl [0, 1, 2, 3, 4, 5, 6, 7, 8, 9, 10] rfl)
                  have hF := hF.trans (if_neg c_213)
                  refine lv_iload hx hb dL_holds_216 (lv_at hl 5 rfl) ?_
                  refine lv_iconst (v := (-1)) hx hb dL_holds_218 (by decide) ?_
                  refine lv_icmp_eq (tgt := 229) hx hb dL_holds_219 (by decide) (fun c_219 => ?_) (fun c_219 => ?_)
                  · have hF := hF.trans (if_pos c_219)
                    refine lv_iload hx hb dL_holds_229 (lv_at hl 3 rfl) ?_
                    refine lv_if_eq (tgt := 252) hx hb dL_holds_231 (by decide) (fun c_231 => ?_) (fun c_231 => ?_)
                    · have hF := hF.trans (if_pos c_231)
                      refine lv_iconst (v := 1) hx hb dL_holds_252 (by decide) ?_
                      refine lv_goto (tgt := 257) hx hb dL_holds_253 (by decide) ?_
                      exact K139 _ hF.symm  ls (lv_sub hl [0, 1, 2, 3, 4, 5, 6, 7, 8, 9, 10] rfl)
                    have hF := hF.trans (if_neg c_231)
                    refine lv_iload hx hb dL_holds_234 (lv_at hl 4 rfl) ?_
                    refine lv_iconst (v := (-1)) hx hb dL_holds_236 (by decide) ?_
                    refine lv_icmp_eq (tgt := 256) hx hb dL_holds_237 (by decide) (fun c_237 => ?_) (fun c_237 => ?_)
                    · have hF := hF.trans (if_pos c_237)
                      refine lv_iconst (v := 0) hx hb dL_holds_256 (by decide) ?_
                      exact K139 _ hF.symm  ls (lv_sub hl [0, 1, 2, 3, 4, 5, 6, 7, 8, 9, 10] rfl)
                    have hF := hF.trans (if_neg c_237)
                    refine lv_iload hx hb dL_holds_240 (lv_at hl 6 rfl) ?_
                    refine lv_aload_n hx hb dL_holds_242 rfl (lv_at hl 10 rfl) ?_
                    refine lv_iload hx hb dL_holds_243 (lv_at hl 4 rfl) ?_
                    refine lv_iconst (v := 3) hx hb dL_holds_245 (by decide) ?_
                    have e_246 : (fX6_guestOf PN (fX6_guestNumber PN (nI kk53) 2) 3) = Sum.inr ((fX6_guestNumber PN (fX6_guestNumber PN (nI kk53) 2) 3), ()) := (wish_in hR (g := kk53) (by omega) c_237)
                    refine k_calli (W.runV (As := [.int (fX6_guestNumber PN (nI kk53) 2), .int 3]) (rest := [.int (fX6_guestNumber PN (nI kk53) 3)]) ⟨hx, hb, hml, hown, hts0⟩ (mX6_guestOf l dC dI cI cP a0 aN aT aS t0 t1 t2 h0 h1 pa PN PT PS f u Ps oh vh k (fX6_guestNumber PN (nI kk53) 2) 3 (ok_inr e_246)) (cwV 2 hts0 (gi_V u_359 u_360 u_361 u_1 u_362) rfl rfl rfl (by decide +kernel) ⟨Nat.le_of_ble_eq_true rfl, Nat.le_of_ble_eq_true rfl⟩) (pcR_V (ci := 4) (q0 := 0) hP hK hn rfl rfl) rfl rfl hl.1 rfl (lv_room (Nat.le_of_ble_eq_true rfl)) dL_holds_246 ⟨Nat.zero_le _, Nat.zero_le _⟩) ?_
                    refine lv_tope (y := (fX6_guestNumber PN (fX6_guestNumber PN (nI kk53) 2) 3)) (ok1_inr e_246) ?_
                    refine lv_icmp_ne (tgt := 256) hx hb dL_holds_249 (by decide) (fun c_249 => ?_) (fun c_249 => ?_)
                    · have hF := hF.trans (if_neg c_249)
                      refine lv_iconst (v := 0) hx hb dL_holds_256 (by decide) ?_
                      exact K139 _ hF.symm  ls (lv_sub hl [0, 1, 2, 3, 4, 5, 6, 7, 8, 9, 10] rfl)
                    have hF := hF.trans (if_pos c_249)
                    refine lv_iconst (v := 1) hx hb dL_holds_252 (by decide) ?_
                    refine lv_goto (tgt := 257) hx hb dL_holds_253 (by decide) ?_
                    exact K139 _ hF.symm  ls (lv_sub hl [0, 1, 2, 3, 4, 5, 6, 7, 8, 9, 10] rfl)
                  have hF := hF.trans (if_neg c_219)
                  refine lv_iload hx hb dL_holds_222 (lv_at hl 5 rfl) ?_
                  refine lv_iconst (v := 3) hx hb dL_holds_224 (by decide) ?_
                  refine lv_irem hx hb dL_holds_225 (by decide) ?_
                  refine lv_if_le (tgt := 256) hx hb dL_holds_226 (by decide) (fun c_226 => ?_) (fun c_226 => ?_)
                  · have hF := hF.trans (if_pos c_226)
                    refine lv_iconst (v := 0) hx hb dL_holds_256 (by decide) ?_
                    exact K139 _ hF.symm  ls (lv_sub hl [0, 1, 2, 3, 4, 5, 6, 7, 8, 9, 10] rfl)
                  have hF := hF.trans (if_neg c_226)
                  refine lv_iload hx hb dL_holds_229 (lv_at hl 3 rfl) ?_
                  refine lv_if_eq (tgt := 252) hx hb dL_holds_231 (by decide) (fun c_231 => ?_) (fun c_231 => ?_)
                  · have hF := hF.trans (if_pos c_231)
                    refine lv_iconst (v := 1) hx hb dL_holds_252 (by decide) ?_
                    refine lv_goto (tgt := 257) hx hb dL_holds_253 (by decide) ?_
                    exact K139 _ hF.symm  ls (lv_sub hl [0, 1, 2, 3, 4, 5, 6, 7, 8, 9, 10] rfl)
                  have hF := hF.trans (if_neg c_231)
                  refine lv_iload hx hb dL_holds_234 (lv_at hl 4 rfl) ?_
                  refine lv_iconst (v := (-1)) hx hb dL_holds_236 (by decide) ?_
                  refine lv_icmp_eq (tgt := 256) hx hb dL_holds_237 (by decide) (fun c_237 => ?_) (fun c_237 => ?_)
                  · have hF := hF.trans (if_pos c_237)
                    refine lv_iconst (v := 0) hx hb dL_holds_256 (by decide) ?_
                    exact K139 _ hF.symm  ls (lv_sub hl [0, 1, 2, 3, 4, 5, 6, 7, 8, 9, 10] rfl)
                  have hF := hF.trans (if_neg c_237)
                  refine lv_iload hx hb dL_holds_240 (lv_at hl 6 rfl) ?_
                  refine lv_aload_n hx hb dL_holds_242 rfl (lv_at hl 10 rfl) ?_
                  refine lv_iload hx hb dL_holds_243 (lv_at hl 4 rfl) ?_
                  refine lv_iconst (v := 3) hx hb dL_holds_245 (by decide) ?_
                  have e_246 : (fX6_guestOf PN (fX6_guestNumber PN (nI kk53) 2) 3) = Sum.inr ((fX6_guestNumber PN (fX6_guestNumber PN (nI kk53) 2) 3), ()) := (wish_in hR (g := kk53) (by omega) c_237)
                  refine k_calli (W.runV (As := [.int (fX6_guestNumber PN (nI kk53) 2), .int 3]) (rest := [.int (fX6_guestNumber PN (nI kk53) 3)]) ⟨hx, hb, hml, hown, hts0⟩ (mX6_guestOf l dC dI cI cP a0 aN aT aS t0 t1 t2 h0 h1 pa PN PT PS f u Ps oh vh k (fX6_guestNumber PN (nI kk53) 2) 3 (ok_inr e_246)) (cwV 2 hts0 (gi_V u_359 u_360 u_361 u_1 u_362) rfl rfl rfl (by decide +kernel) ⟨Nat.le_of_ble_eq_true rfl, Nat.le_of_ble_eq_true rfl⟩) (pcR_V (ci := 4) (q0 := 0) hP hK hn rfl rfl) rfl rfl hl.1 rfl (lv_room (Nat.le_of_ble_eq_true rfl)) dL_holds_246 ⟨Nat.zero_le _, Nat.zero_le _⟩) ?_
                  refine lv_tope (y := (fX6_guestNumber PN (fX6_guestNumber PN (nI kk53) 2) 3)) (ok1_inr e_246) ?_
                  refine lv_icmp_ne (tgt := 256) hx hb dL_holds_249 (by decide) (fun c_249 => ?_) (fun c_249 => ?_)
                  · have hF := hF.trans (if_neg c_249)
                    refine lv_iconst (v := 0) hx hb dL_holds_256 (by decide) ?_
                    exact K139 _ hF.symm  ls (lv_sub hl [0, 1, 2, 3, 4, 5, 6, 7, 8, 9, 10] rfl)
                  have hF := hF.trans (if_pos c_249)
                  refine lv_iconst (v := 1) hx hb dL_holds_252 (by decide) ?_
                  refine lv_goto (tgt := 257) hx hb dL_holds_253 (by decide) ?_
                  exact K139 _ hF.symm  ls (lv_sub hl [0, 1, 2, 3, 4, 5, 6, 7, 8, 9, 10] rfl)
                have hF := hF.trans (if_pos c_170)
                refine lv_aload_n hx hb dL_holds_173 rfl (lv_at hl 10 rfl) ?_
                refine lv_iload hx hb dL_holds_174 (lv_at hl 7 rfl) ?_
                refine lv_bipush (v := 6) hx hb dL_holds_176 (by decide) ?_
                have e_178 : (fX6_guestOf PN (nI kk53) 6) = Sum.inr ((fX6_guestNumber PN (nI kk53) 6), ()) := (guestOf_in hR (g := kk53) (w := 6) (by omega) (by omega))
                refine k_calli (W.runV (As := [.int (nI kk53), .int 6]) (rest := []) ⟨hx, hb, hml, hown, hts0⟩ (mX6_guestOf l dC dI cI cP a0 aN aT aS t0 t1 t2 h0 h1 pa PN PT PS f u Ps oh vh k (nI kk53) 6 (ok_inr e_178)) (cwV 2 hts0 (gi_V u_359 u_360 u_361 u_1 u_362) rfl rfl rfl (by decide +kernel) ⟨Nat.le_of_ble_eq_true rfl, Nat.le_of_ble_eq_true rfl⟩) (pcR_V (ci := 4) (q0 := 0) hP hK hn rfl rfl) rfl rfl hl.1 rfl (lv_room (Nat.le_of_ble_eq_true rfl)) dL_holds_178 ⟨Nat.zero_le _, Nat.zero_le _⟩) ?_
                refine lv_tope (y := (fX6_guestNumber PN (nI kk53) 6)) (ok1_inr e_178) ?_
                refine lv_if_ne (tgt := 256) hx hb dL_holds_181 (by decide) (fun c_181 => ?_) (fun c_181 => ?_)
                · have hF := hF.trans (if_neg c_181)
                  refine lv_iconst (v := 0) hx hb dL_holds_256 (by decide) ?_
                  exact K139 _ hF.symm  ls (lv_sub hl [0, 1, 2, 3, 4, 5, 6, 7, 8, 9, 10] rfl)
                have hF := hF.trans (if_pos c_181)
                refine lv_iload hx hb dL_holds_184 (lv_at hl 3 rfl) ?_
                refine lv_if_ne (tgt := 256) hx hb dL_holds_186 (by decide) (fun c_186 => ?_) (fun c_186 => ?_)
                · have hF := hF.trans (if_neg c_186)
                  refine lv_iconst (v := 0) hx hb dL_holds_256 (by decide) ?_
                  exact K139 _ hF.symm  ls (lv_sub hl [0, 1, 2, 3, 4, 5, 6, 7, 8, 9, 10] rfl)
                have hF := hF.trans (if_pos c_186)
                refine lv_goto (tgt := 205) hx hb dL_holds_189 (by decide) ?_
                refine lv_aload_n hx hb dL_holds_205 rfl (lv_at hl 10 rfl) ?_
                refine lv_iload hx hb dL_holds_206 (lv_at hl 7 rfl) ?_
                refine lv_iconst (v := 1) hx hb dL_holds_208 (by decide) ?_
                have e_209 : (fX6_guestOf PN (nI kk53) 1) = Sum.inr ((fX6_guestNumber PN (nI kk53) 1), ()) := (guestOf_in hR (g := kk53) (w := 1) (by omega) (by omega))
                refine k_calli (W.runV (As := [.int (nI kk53), .int 1]) (rest := []) ⟨hx, hb, hml, hown, hts0⟩ (mX6_guestOf l dC dI cI cP a0 aN aT aS t0 t1 t2 h0 h1 pa PN PT PS f u Ps oh vh k (nI kk53) 1 (ok_inr e_209)) (cwV 2 hts0 (gi_V u_359 u_360 u_361 u_1 u_362) rfl rfl rfl (by decide +kernel) ⟨Nat.le_of_ble_eq_true rfl, Nat.le_of_ble_eq_true rfl⟩) (pcR_V (ci := 4) (q0 := 0) hP hK hn rfl rfl) rfl rfl hl.1 rfl (lv_room (Nat.le_of_ble_eq_true rfl)) dL_holds_209 ⟨Nat.zero_le _, Nat.zero_le _⟩) ?_
                refine lv_tope (y := (fX6_guestNumber PN (nI kk53) 1)) (ok1_inr e_209) ?_
                refine lv_iconst (v := 3) hx hb dL_holds_212 (by decide) ?_
                refine lv_icmp_lt (tgt := 229) hx hb dL_holds_213 (by decide) (fun c_213 => ?_) (fun c_213 => ?_)
                · have hF := hF.trans (if_pos c_213)
                  refine lv_iload hx hb dL_holds_229 (lv_at hl 3 rfl) ?_
                  refine lv_if_eq (tgt := 252) hx hb dL_holds_231 (by decide) (fun c_231 => ?_) (fun c_231 => ?_)
                  · have hF := hF.trans (if_pos c_231)
                    refine lv_iconst (v := 1) hx hb dL_holds_252 (by decide) ?_
                    refine lv_goto (tgt := 257) hx hb dL_holds_253 (by decide) ?_
                    exact K139 _ hF.symm  ls (lv_sub hl [0, 1, 2, 3, 4, 5, 6, 7, 8, 9, 10] rfl)
                  have hF := hF.trans (if_neg c_231)
                  refine lv_iload hx hb dL_holds_234 (lv_at hl 4 rfl) ?_
                  refine lv_iconst (v := (-1)) hx hb dL_holds_236 (by decide) ?_
                  refine lv_icmp_eq (tgt := 256) hx hb dL_holds_237 (by decide) (fun c_237 => ?_) (fun c_237 => ?_)
                  · have hF := hF.trans (if_pos c_237)
                    refine lv_iconst (v := 0) hx hb dL_holds_256 (by decide) ?_
                    exact K139 _ hF.symm  ls (lv_sub hl [0, 1, 2, 3, 4, 5, 6, 7, 8, 9, 10] rfl)
                  have hF := hF.trans (if_neg c_237)
                  refine lv_iload hx hb dL_holds_240 (lv_at hl 6 rfl) ?_
                  refine lv_aload_n hx hb dL_holds_242 rfl (lv_at hl 10 rfl) ?_
                  refine lv_iload hx hb dL_holds_243 (lv_at hl 4 rfl) ?_
                  refine lv_iconst (v := 3) hx hb dL_holds_245 (by decide) ?_
                  have e_246 : (fX6_guestOf PN (fX6_guestNumber PN (nI kk53) 2) 3) = Sum.inr ((fX6_guestNumber PN (fX6_guestNumber PN (nI kk53) 2) 3), ()) := (wish_in hR (g := kk53) (by omega) c_237)
                  refine k_calli (W.runV (As := [.int (fX6_guestNumber PN (nI kk53) 2), .int 3]) (rest := [.int (fX6_guestNumber PN (nI kk53) 3)]) ⟨hx, hb, hml, hown, hts0⟩ (mX6_guestOf l dC dI cI cP a0 aN aT aS t0 t1 t2 h0 h1 pa PN PT PS f u Ps oh vh k (fX6_guestNumber PN (nI kk53) 2) 3 (ok_inr e_246)) (cwV 2 hts0 (gi_V u_359 u_360 u_361 u_1 u_362) rfl rfl rfl (by decide +kernel) ⟨Nat.le_of_ble_eq_true rfl, Nat.le_of_ble_eq_true rfl⟩) (pcR_V (ci := 4) (q0 := 0) hP hK hn rfl rfl) rfl rfl hl.1 rfl (lv_room (Nat.le_of_ble_eq_true rfl)) dL_holds_246 ⟨Nat.zero_le _, Nat.zero_le _⟩) ?_
                  refine lv_tope (y := (fX6_guestNumber PN (fX6_guestNumber PN (nI kk53) 2) 3)) (ok1_inr e_246) ?_
                  refine lv_icmp_ne (tgt := 256) hx hb dL_holds_249 (by decide) (fun c_249 => ?_) (fun c_249 => ?_)
                  · have hF := hF.trans (if_neg c_249)
                    refine lv_iconst (v := 0) hx hb dL_holds_256 (by decide) ?_
                    exact K139 _ hF.symm  ls (lv_sub hl [0, 1, 2, 3, 4, 5, 6, 7, 8, 9, 10] rfl)
                  have hF := hF.trans (if_pos c_249)
                  refine lv_iconst (v := 1) hx hb dL_holds_252 (by decide) ?_
                  refine lv_goto (tgt := 257) hx hb dL_holds_253 (by decide) ?_
                  exact K139 _ hF.symm  ls (lv_sub hl [0, 1, 2, 3, 4, 5, 6, 7, 8, 9, 10] rfl)
                have hF := hF.trans (if_neg c_213)
                refine lv_iload hx hb dL_holds_216 (lv_at hl 5 rfl) ?_
                refine lv_iconst (v := (-1)) hx hb dL_holds_218 (by decide) ?_
                refine lv_icmp_eq (tgt := 229) hx hb dL_holds_219 (by decide) (fun c_219 => ?_) (fun c_219 => ?_)
                · have hF := hF.trans (if_pos c_219)
                  refine lv_iload hx hb dL_holds_229 (lv_at hl 3 rfl) ?_
                  refine lv_if_eq (tgt := 252) hx hb dL_holds_231 (by decide) (fun c_231 => ?_) (fun c_231 => ?_)
                  · have hF := hF.trans (if_pos c_231)
                    refine lv_iconst (v := 1) hx hb dL_holds_252 (by decide) ?_
                    refine lv_goto (tgt := 257) hx hb dL_holds_253 (by decide) ?_
                    exact K139 _ hF.symm  ls (lv_sub hl [0, 1, 2, 3, 4, 5, 6, 7, 8, 9, 10] rfl)
                  have hF := hF.trans (if_neg c_231)
                  refine lv_iload hx hb dL_holds_234 (lv_at hl 4 rfl) ?_
                  refine lv_iconst (v := (-1)) hx hb dL_holds_236 (by decide) ?_
                  refine lv_icmp_eq (tgt := 256) hx hb dL_holds_237 (by decide) (fun c_237 => ?_) (fun c_237 => ?_)
                  · have hF := hF.trans (if_pos c_237)
                    refine lv_iconst (v := 0) hx hb dL_holds_256 (by decide) ?_
                    exact K139 _ hF.symm  ls (lv_sub hl [0, 1, 2, 3, 4, 5, 6, 7, 8, 9, 10] rfl)
                  have hF := hF.trans (if_neg c_237)
                  refine lv_iload hx hb dL_holds_240 (lv_at hl 6 rfl) ?_
                  refine lv_aload_n hx hb dL_holds_242 rfl (lv_at hl 10 rfl) ?_
                  refine lv_iload hx hb dL_holds_243 (lv_at hl 4 rfl) ?_
                  refine lv_iconst (v := 3) hx hb dL_holds_245 (by decide) ?_
                  have e_246 : (fX6_guestOf PN (fX6_guestNumber PN (nI kk53) 2) 3) = Sum.inr ((fX6_guestNumber PN (fX6_guestNumber PN (nI kk53) 2) 3), ()) := (wish_in hR (g := kk53) (by omega) c_237)
                  refine k_calli (W.runV (As := [.int (fX6_guestNumber PN (nI kk53) 2), .int 3]) (rest := [.int (fX6_guestNumber PN (nI kk53) 3)]) ⟨hx, hb, hml, hown, hts0⟩ (mX6_guestOf l dC dI cI cP a0 aN aT aS t0 t1 t2 h0 h1 pa PN PT PS f u Ps oh vh k (fX6_guestNumber PN (nI kk53) 2) 3 (ok_inr e_246)) (cwV 2 hts0 (gi_V u_359 u_360 u_361 u_1 u_362) rfl rfl rfl (by decide +kernel) ⟨Nat.le_of_ble_eq_true rfl, Nat.le_of_ble_eq_true rfl⟩) (pcR_V (ci := 4) (q0 := 0) hP hK hn rfl rfl) rfl rfl hl.1 rfl (lv_room (Nat.le_of_ble_eq_true rfl)) dL_holds_246 ⟨Nat.zero_le _, Nat.zero_le _⟩) ?_
                  refine lv_tope (y := (fX6_guestNumber PN (fX6_guestNumber PN (nI kk53) 2) 3)) (ok1_inr e_246) ?_
                  refine lv_icmp_ne (tgt := 256) hx hb dL_holds_249 (by decide) (fun c_249 => ?_) (fun c_249 => ?_)
                  · have hF := hF.trans (if_neg c_249)
                    refine lv_iconst (v := 0) hx hb dL_holds_256 (by decide) ?_
                    exact K139 _ hF.symm  ls (lv_sub hl [0, 1, 2, 3, 4, 5, 6, 7, 8, 9, 10] rfl)
                  have hF := hF.trans (if_pos c_249)
                  refine lv_iconst (v := 1) hx hb dL_holds_252 (by decide) ?_
                  refine lv_goto (tgt := 257) hx hb dL_holds_253 (by decide) ?_
                  exact K139 _ hF.symm  ls (lv_sub hl [0, 1, 2, 3, 4, 5, 6, 7, 8, 9, 10] rfl)
                have hF := hF.trans (if_neg c_219)
                refine lv_iload hx hb dL_holds_222 (lv_at hl 5 rfl) ?_
                refine lv_iconst (v := 3) hx hb dL_holds_224 (by decide) ?_
                refine lv_irem hx hb dL_holds_225 (by decide) ?_
                refine lv_if_le (tgt := 256) hx hb dL_holds_226 (by decide) (fun c_226 => ?_) (fun c_226 => ?_)
                · have hF := hF.trans (if_pos c_226)
                  refine lv_iconst (v := 0) hx hb dL_holds_256 (by decide) ?_
                  exact K139 _ hF.symm  ls (lv_sub hl [0, 1, 2, 3, 4, 5, 6, 7, 8, 9, 10] rfl)
                have hF := hF.trans (if_neg c_226)
                refine lv_iload hx hb dL_holds_229 (lv_at hl 3 rfl) ?_
                refine lv_if_eq (tgt := 252) hx hb dL_holds_231 (by decide) (fun c_231 => ?_) (fun c_231 => ?_)
                · have hF := hF.trans (if_pos c_231)
                  refine lv_iconst (v := 1) hx hb dL_holds_252 (by decide) ?_
                  refine lv_goto (tgt := 257) hx hb dL_holds_253 (by decide) ?_
                  exact K139 _ hF.symm  ls (lv_sub hl [0, 1, 2, 3, 4, 5, 6, 7, 8, 9, 10] rfl)
                have hF := hF.trans (if_neg c_231)
                refine lv_iload hx hb dL_holds_234 (lv_at hl 4 rfl) ?_
                refine lv_iconst (v := (-1)) hx hb dL_holds_236 (by decide) ?_
                refine lv_icmp_eq (tgt := 256) hx hb dL_holds_237 (by decide) (fun c_237 => ?_) (fun c_237 => ?_)
                · have hF := hF.trans (if_pos c_237)
                  refine lv_iconst (v := 0) hx hb dL_holds_256 (by decide) ?_
                  exact K139 _ hF.symm  ls (lv_sub hl [0, 1, 2, 3, 4, 5, 6, 7, 8, 9, 10] rfl)
                have hF := hF.trans (if_neg c_237)
                refine lv_iload hx hb dL_holds_240 (lv_at hl 6 rfl) ?_
                refine lv_aload_n hx hb dL_holds_242 rfl (lv_at hl 10 rfl) ?_
                refine lv_iload hx hb dL_holds_243 (lv_at hl 4 rfl) ?_
                refine lv_iconst (v := 3) hx hb dL_holds_245 (by decide) ?_
                have e_246 : (fX6_guestOf PN (fX6_guestNumber PN (nI kk53) 2) 3) = Sum.inr ((fX6_guestNumber PN (fX6_guestNumber PN (nI kk53) 2) 3), ()) := (wish_in hR (g := kk53) (by omega) c_237)
                refine k_calli (W.runV (As := [.int (fX6_guestNumber PN (nI kk53) 2), .int 3]) (rest := [.int (fX6_guestNumber PN (nI kk53) 3)]) ⟨hx, hb, hml, hown, hts0⟩ (mX6_guestOf l dC dI cI cP a0 aN aT aS t0 t1 t2 h0 h1 pa PN PT PS f u Ps oh vh k (fX6_guestNumber PN (nI kk53) 2) 3 (ok_inr e_246)) (cwV 2 hts0 (gi_V u_359 u_360 u_361 u_1 u_362) rfl rfl rfl (by decide +kernel) ⟨Nat.le_of_ble_eq_true rfl, Nat.le_of_ble_eq_true rfl⟩) (pcR_V (ci := 4) (q0 := 0) hP hK hn rfl rfl) rfl rfl hl.1 rfl (lv_room (Nat.le_of_ble_eq_true rfl)) dL_holds_246 ⟨Nat.zero_le _, Nat.zero_le _⟩) ?_
                refine lv_tope (y := (fX6_guestNumber PN (fX6_guestNumber PN (nI kk53) 2) 3)) (ok1_inr e_246) ?_
                refine lv_icmp_ne (tgt := 256) hx hb dL_holds_249 (by decide) (fun c_249 => ?_) (fun c_249 => ?_)
                · have hF := hF.trans (if_neg c_249)
                  refine lv_iconst (v := 0) hx hb dL_holds_256 (by decide) ?_
                  exact K139 _ hF.symm  ls (lv_sub hl [0, 1, 2, 3, 4, 5, 6, 7, 8, 9, 10] rfl)
                have hF := hF.trans (if_pos c_249)
                refine lv_iconst (v := 1) hx hb dL_holds_252 (by decide) ?_
                refine lv_goto (tgt := 257) hx hb dL_holds_253 (by decide) ?_
                exact K139 _ hF.symm  ls (lv_sub hl [0, 1, 2, 3, 4, 5, 6, 7, 8, 9, 10] rfl)
              have hF : ((if (fX6_guestNumber PN (nI kk53) 4) = (-1) then 1 else 0) : Nat) = (if (fX6_guestNumber PN (nI kk53) 4) = (-1) then 1 else 0) := rfl
              refine lv_icmp_ne (tgt := 163) hx hb dL_holds_156 (by decide) (fun c_156 => ?_) (fun c_156 => ?_)
              · have hF := hF.trans (if_neg c_156)
                refine lv_iconst (v := 0) hx hb dL_holds_163 (by decide) ?_
                exact K156 _ hF.symm  ls (lv_sub hl [0, 1, 2, 3, 4, 5, 6, 7, 8, 9, 10] rfl)
              have hF := hF.trans (if_pos c_156)
              refine lv_iconst (v := 1) hx hb dL_holds_159 (by decide) ?_
              refine lv_goto (tgt := 164) hx hb dL_holds_160 (by decide) ?_
              exact K156 _ hF.symm  ls (lv_sub hl [0, 1, 2, 3, 4, 5, 6, 7, 8, 9, 10] rfl)
            have hF : ((if (fX6_guestNumber PN (nI kk53) 3) = (-1) then 1 else 0) : Nat) = (if (fX6_guestNumber PN (nI kk53) 3) = (-1) then 1 else 0) := rfl
            refine lv_icmp_ne (tgt := 152) hx hb dL_holds_145 (by decide) (fun c_145 => ?_) (fun c_145 => ?_)
            · have hF := hF.trans (if_neg c_145)
              refine lv_iconst (v := 0) hx hb dL_holds_152 (by decide) ?_
              exact K145 _ hF.symm  ls (lv_sub hl [0, 1, 2, 3, 4, 5, 6, 7, 8, 9, 10] rfl)
            have hF := hF.trans (if_pos c_145)
            refine lv_iconst (v := 1) hx hb dL_holds_148 (by decide) ?_
            refine lv_goto (tgt := 153) hx hb dL_holds_149 (by decide) ?_
            exact K145 _ hF.symm  ls (lv_sub hl [0, 1, 2, 3, 4, 5, 6, 7, 8, 9, 10] rfl)
          have hF : ((if (fX6_guestNumber PN (nI kk53) 3) = (-1) then 0 else 1) : Nat) = (if (fX6_guestNumber PN (nI kk53) 3) = (-1) then 0 else 1) := rfl
          refine lv_icmp_ne (tgt := 134) hx hb dL_holds_127 (by decide) (fun c_127 => ?_) (fun c_127 => ?_)
          · have hF := hF.trans (if_neg c_127)
            refine lv_iconst (v := 1) hx hb dL_holds_134 (by decide) ?_
            exact K127 _ hF.symm  ls (lv_sub hl [0, 1, 2, 3, 4, 5, 6, 7, 8, 9, 10] rfl)
          have hF := hF.trans (if_pos c_127)
          refine lv_iconst (v := 0) hx hb dL_holds_130 (by decide) ?_
          refine lv_goto (tgt := 135) hx hb dL_holds_131 (by decide) ?_
          exact K127 _ hF.symm  ls (lv_sub hl [0, 1, 2, 3, 4, 5, 6, 7, 8, 9, 10] rfl)
        have hF : ((if (fX6_guestNumber PN (nI kk53) 5) ≤ 0 then 0 else 1) : Nat) = (if (fX6_guestNumber PN (nI kk53) 5) ≤ 0 then 0 else 1) := rfl
        refine lv_if_le (tgt := 120) hx hb dL_holds_113 (by decide) (fun c_113 => ?_) (fun c_113 => ?_)
        · have hF := hF.trans (if_pos c_113)
          refine lv_iconst (v := 0) hx hb dL_holds_120 (by decide) ?_
          exact K113 _ hF.symm  ls (lv_sub hl [0, 1, 2, 3, 4, 5, 6, 7, 8, 9, 10] rfl)
        have hF := hF.trans (if_neg c_113)
        refine lv_iconst (v := 1) hx hb dL_holds_116 (by decide) ?_
        refine lv_goto (tgt := 121) hx hb dL_holds_117 (by decide) ?_
        exact K113 _ hF.symm  ls (lv_sub hl [0, 1, 2, 3, 4, 5, 6, 7, 8, 9, 10] rfl)
    exact L53 ((PN 10 0).toNatClampNeg) 0 v19_0 0 0 0 (Nat.zero_add _) hF ls (lv_sub hl [0, 1, 2, 3, 4, 5, 6] rfl)
  have hF : ((if (fX4_byGuests PN) = (fX4_byTables PN) then (if (PN 10 5) = ((PN 10 2) - (PN 10 3)) then 1 else 0) else 0) : Nat) = (if (fX4_byGuests PN) = (fX4_byTables PN) then (if (PN 10 5) = ((PN 10 2) - (PN 10 3)) then 1 else 0) else 0) := rfl
  refine lv_icmp_ne (tgt := 47) hx hb dL_holds_19 (by decide) (fun c_19 => ?_) (fun c_19 => ?_)
  · have hF := hF.trans (if_neg c_19)
    refine lv_iconst (v := 0) hx hb dL_holds_47 (by decide) ?_
    exact K19 _ hF.symm  ls (lv_sub hl [0, 1, 2, 3, 4] rfl)
  have hF := hF.trans (if_pos c_19)
  refine lv_aload_n hx hb dL_holds_22 rfl (lv_at hl 4 rfl) ?_
  refine lv_iconst (v := 3) hx hb dL_holds_23 (by decide) ?_
  have e_24 : (fX6_count PN Ps oh vh 3) = Sum.inr ((PN 10 5), ()) := count_3
  refine k_calli (W.runV (As := [.int 3]) (rest := []) ⟨hx, hb, hml, hown, hts0⟩ (mX6_count l dC dI cI cP a0 aN aT aS t0 t1 t2 h0 h1 pa PN PT PS f u Ps oh vh k 3 (ok_inr e_24)) (cwV 1 hts0 (gi_V u_268 u_269 u_270 u_1 u_271) rfl rfl rfl (by decide +kernel) ⟨Nat.le_of_ble_eq_true rfl, Nat.le_of_ble_eq_true rfl⟩) (pcR_V (ci := 4) (q0 := 0) hP hK hn rfl rfl) rfl rfl hl.1 rfl (lv_room (Nat.le_of_ble_eq_true rfl)) dL_holds_24 ⟨Nat.zero_le _, Nat.zero_le _⟩) ?_
  refine lv_tope (y := (PN 10 5)) (ok1_inr e_24) ?_
  refine lv_aload_n hx hb dL_holds_27 rfl (lv_at hl 4 rfl) ?_
  refine lv_bipush (v := 7) hx hb dL_holds_28 (by decide) ?_
  have e_30 : (fX6_count PN Ps oh vh 7) = Sum.inr ((PN 10 2), ()) := count_7
  refine k_calli (W.runV (As := [.int 7]) (rest := [.int (PN 10 5)]) ⟨hx, hb, hml, hown, hts0⟩ (mX6_count l dC dI cI cP a0 aN aT aS t0 t1 t2 h0 h1 pa PN PT PS f u Ps oh vh k 7 (ok_inr e_30)) (cwV 1 hts0 (gi_V u_268 u_269 u_270 u_1 u_271) rfl rfl rfl (by decide +kernel) ⟨Nat.le_of_ble_eq_true rfl, Nat.le_of_ble_eq_true rfl⟩) (pcR_V (ci := 4) (q0 := 0) hP hK hn rfl rfl) rfl rfl hl.1 rfl (lv_room (Nat.le_of_ble_eq_true rfl)) dL_holds_30 ⟨Nat.zero_le _, Nat.zero_le _⟩) ?_
  refine lv_tope (y := (PN 10 2)) (ok1_inr e_30) ?_
  refine lv_aload_n hx hb dL_holds_33 rfl (lv_at hl 4 rfl) ?_
  refine lv_bipush (v := 8) hx hb dL_holds_34 (by decide) ?_
  have e_36 : (fX6_count PN Ps oh vh 8) = Sum.inr ((PN 10 3), ()) := count_8
  refine k_calli (W.runV (As := [.int 8]) (rest := [.int (PN 10 2), .int (PN 10 5)]) ⟨hx, hb, hml, hown, hts0⟩ (mX6_count l dC dI cI cP a0 aN aT aS t0 t1 t2 h0 h1 pa PN PT PS f u Ps oh vh k 8 (ok_inr e_36)) (cwV 1 hts0 (gi_V u_268 u_269 u_270 u_1 u_271) rfl rfl rfl (by decide +kernel) ⟨Nat.le_of_ble_eq_true rfl, Nat.le_of_ble_eq_true rfl⟩) (pcR_V (ci := 4) (q0 := 0) hP hK hn rfl rfl) rfl rfl hl.1 rfl (lv_room (Nat.le_of_ble_eq_true rfl)) dL_holds_36 ⟨Nat.zero_le _, Nat.zero_le _⟩) ?_
  refine lv_tope (y := (PN 10 3)) (ok1_inr e_36) ?_
  refine lv_isub hx hb dL_holds_39 ?_
  refine lv_icmp_ne (tgt := 47) hx hb dL_holds_40 (by decide) (fun c_40 => ?_) (fun c_40 => ?_)
  · have hF := hF.trans (if_neg c_40)
    refine lv_iconst (v := 0) hx hb dL_holds_47 (by decide) ?_
    exact K19 _ hF.symm  ls (lv_sub hl [0, 1, 2, 3, 4] rfl)
  have hF := hF.trans (if_pos c_40)
  refine lv_iconst (v := 1) hx hb dL_holds_43 (by decide) ?_
  refine lv_goto (tgt := 48) hx hb dL_holds_44 (by decide) ?_
  exact K19 _ hF.symm  ls (lv_sub hl [0, 1, 2, 3, 4] rfl)
