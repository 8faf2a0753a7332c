/-! is there this feud. Mine (rows laid by program). -/
def fL_isFeud_b5 (PN : PV) (a : Int32) (b : Int32) (kk5 : Nat) (x5_3 : Nat) (nextkk5 : Nat → Int32) : Int32 :=
  (bd ((if (nI x5_3) = 0 then (bd ((if b ≤ a then ((6 * b) + a) else ((6 * a) + b)) : Int32) (fun v27_0 => (if (fX1_itemAt 8 (PN 8) (PN 10 4) (nI kk5)) = v27_0 then 1 else 0))) else 1) : Nat) (fun v16_0 => (nextkk5 v16_0)))
def fL_isFeud_r5 (x5_3 : Nat) : Int32 :=
  (nI x5_3)
def fL_isFeud (PN : PV) (a : Int32) (b : Int32) : Int32 :=
  (lq1 (fL_isFeud_b5 PN a b) fL_isFeud_r5 ((PN 10 4).toNatClampNeg) 0 0)
abbrev rmL_isFeud : Room := { frames := 7, cells := 0, slots := 0, locals := 172 }
set_option maxHeartbeats 4000000 in
set_option maxRecDepth 100000 in
theorem mL_isFeud (l : Launch) (dC : Nat → ClassId) (dI : Nat → Nat → Nat) (cI cP : ClassId) (a0 : Nat) (aN aT aS : Nat → Nat) (t0 t1 t2 h0 h1 : Nat) (pa : Nat → Nat → Nat) (PN PT PS : PV) (f : Nat → Int32) (u : Int32) (Ps : Nat → PV) (oh vh : Nat) (k : Int32) (a : Int32) (b : Int32) : Met l yL_isFeud (ws_ yL_isFeud cL_isFeud 5 (some .boolean)) rmL_isFeud (pcR (dC, dI) [(cI, .int), (cP, .object "SupperSeats$Plan")] (fW cI cP a0 aN aT aS t0 t1 t2 h0 h1 pa PN PT PS f u Ps oh vh k) [.ref a0, .int a, .int b]) (vp_Si (fun r => r = fL_isFeud PN a b ∧ (r = 0 ∨ r = 1))) 0 0 (fun _ => False) := by
  refine Met.ofW (cc := cL_isFeud) (maxL := 5) (ret := (some .boolean)) (by decide) rfl ?_
  intro p e s m args below meth c s₁ B hml hv
  obtain ⟨ha, hP, hK, hn⟩ := hv
  have hx := B.exec
  have hb := B.bytes
  have hr := B.returns
  have hts0 := atoms_spec (ws := (ws_ yL_isFeud cL_isFeud 5 (some .boolean))) B.pre
  have hts : ∀ w ∈ lw_all, w.before args s = true := fun w h => hts0 w (List.mem_cons_of_mem _ h)
  have hown : s.vm.findClass RL = some m.cls := findClass_of_methodNamed B.named
  have hlocks := B.notSynchronized
  obtain ⟨Q, hQ⟩ : ∃ Q, Q = MQ below (vp_Si (fun r => r = fL_isFeud PN a b ∧ (r = 0 ∨ r = 1))) args s 0 0 (fun _ => False) := ⟨_, rfl⟩
  rw [← hQ]
  have hl := lv_entry ([.ref a0, .int a, .int b]) (n := 5) (Nat.le_of_ble_eq_true rfl)
  rw [ha, lg_entry_eq, ← ha]
  generalize (lg_sl ([.ref a0, .int a, .int b]) ++ List.replicate (5 - (lg_sl ([.ref a0, .int a, .int b])).length) Slot.unset).toArray = ls at hl ⊢
  have hl : lv_has ls 5 [(0, .ref a0), (1, .int a), (2, .int b)] := hl
  show W p l e rmL_isFeud s m args below meth c s.heap [] 0 0 Q (F0 m 0 ls [])
  have hF : fL_isFeud PN a b = fL_isFeud PN a b := rfl
  refine lv_iconst (v := 0) hx hb dL_isFeud_0 (by decide) ?_
  refine lv_istore_n (lv' := [(3, .int 0), (0, .ref a0), (1, .int a), (2, .int b)]) hx hb dL_isFeud_1 rfl hl (by decide) rfl (fun ls hl => ?_)
  refine lv_iconst (v := 0) hx hb dL_isFeud_2 (by decide) ?_
  refine lv_istore (lv' := [(4, .int 0), (3, .int 0), (0, .ref a0), (1, .int a), (2, .int b)]) hx hb dL_isFeud_3 hl (by decide) rfl (fun ls hl => ?_)
  have L5 : ∀ (jj5 kk5 : Nat) (x5_3 : Nat), kk5 + jj5 = ((PN 10 4).toNatClampNeg) → fL_isFeud PN a b = lq1 (fL_isFeud_b5 PN a b) fL_isFeud_r5 jj5 kk5 x5_3 → (x5_3 = 0 ∨ x5_3 = 1) → ∀ (ls : Array Slot), lv_has ls 5 [(4, .int (nI kk5)), (3, .int (nI x5_3)), (0, .ref a0), (1, .int a), (2, .int b)] → W p l e rmL_isFeud s m args below meth c s.heap [] 0 0 Q (F0 m 5 ls []) := by
    intro jj5
    induction jj5 using Nat.strongRecOn with
    | _ jj5 ihkk5 =>
      intro kk5 x5_3 hkkk5 hF hikk5  ls hl
      refine lv_iload hx hb dL_isFeud_5 (lv_at hl 0 rfl) ?_
      refine lv_aload_n hx hb dL_isFeud_7 rfl (lv_at hl 2 rfl) ?_
      refine lv_iconst (v := 2) hx hb dL_isFeud_8 (by decide) ?_
      have e_9 : (fX6_count PN Ps oh vh 2) = Sum.inr ((PN 10 4), ()) := count_2
      refine k_calli (W.runV (As := [.int 2]) (rest := [.int (nI kk5)]) ⟨hx, hb, hml, hown, hts0⟩ (mX6_count l dC dI cI cP a0 aN aT aS t0 t1 t2 h0 h1 pa PN PT PS f u Ps oh vh k 2 (ok_inr e_9)) (cwV 1 hts0 (gi_V u_268 u_269 u_270 u_1 u_271) rfl rfl rfl (by decide +kernel) ⟨Nat.le_of_ble_eq_true rfl, Nat.le_of_ble_eq_true rfl⟩) (pcR_V (ci := 4) (q0 := 0) hP hK hn rfl rfl) rfl rfl hl.1 rfl (lv_room (Nat.le_of_ble_eq_true rfl)) dL_isFeud_9 ⟨Nat.zero_le _, Nat.zero_le _⟩) ?_
      refine lv_tope (y := (PN 10 4)) (ok1_inr e_9) ?_
      refine lv_icmp_ge (tgt := 60) hx hb dL_isFeud_12 (by decide) (fun c_12 => ?_) (fun c_12 => ?_)
      · obtain rfl := cn_exit hkkk5 c_12
        have hF := hF.trans (lq1_z _ _ _ _)
        refine lv_iload_n hx hb dL_isFeud_60 rfl (lv_at hl 1 rfl) ?_
        rw [hQ]
        exact W.zret (ty := .boolean) (v := (nI x5_3)) hx hb hr (nb01 ((nI01 hikk5))) (fun t ht hW => ⟨(nI x5_3), rfl, ⟨hF.symm, (nI01 hikk5)⟩, ht⟩) (fun q hq => absurd hq List.not_mem_nil) dL_isFeud_61
      obtain ⟨jj5, rfl⟩ := cn_go hkkk5 c_12
      have hF := hF.trans (lq1_s _ _ _ _ _)
      obtain ⟨nextkk5, hnextkk5⟩ : ∃ y9, y9 = lq1 (fL_isFeud_b5 PN a b) fL_isFeud_r5 jj5 (kk5 + 1) := ⟨_, rfl⟩
      rw [← hnextkk5] at hF
      have hlt5 := cn_clamp_lt (PN 10 4)
      refine lv_iload_n hx hb dL_isFeud_15 rfl (lv_at hl 1 rfl) ?_
      have K16 : ∀ (v16_0 : Nat), v16_0 = (if (nI x5_3) = 0 then (bd ((if b ≤ a then ((6 * b) + a) else ((6 * a) + b)) : Int32) (fun v27_0 => (if (fX1_itemAt 8 (PN 8) (PN 10 4) (nI kk5)) = v27_0 then 1 else 0))) else 1) → ∀ (ls : Array Slot), lv_has ls 5 [(4, .int (nI kk5)), (3, .int (nI x5_3)), (0, .ref a0), (1, .int a), (2, .int b)] → W p l e rmL_isFeud s m args below meth c s.heap [] 0 0 Q (F0 m 53 ls [.int (nI v16_0)]) := by
        intro v16_0 hz16  ls hl
        have hz := hz16
        have bz16 : (nI v16_0 : Int32) = 0 ∨ nI v16_0 = 1 := by rw [hz]; (try simp only [bd_eq]); (repeat' split); all_goals first | exact Or.inl rfl | exact Or.inr rfl
        have hF := bd_at hF hz
        refine lv_istore_n (lv' := [(3, .int (nI v16_0)), (4, .int (nI kk5)), (0, .ref a0), (1, .int a), (2, .int b)]) hx hb dL_isFeud_53 rfl hl (by decide) rfl (fun ls hl => ?_)
        refine lv_iinc (v := (nI (kk5 + 1))) (lv' := [(4, .int (nI (kk5 + 1))), (3, .int (nI v16_0)), (0, .ref a0), (1, .int a), (2, .int b)]) hx hb dL_isFeud_54 hl (k := 1) rfl (nI_1 _) (by decide) rfl (fun ls hl => ?_)
        refine lv_goto (tgt := 5) hx hb dL_isFeud_57 (by decide) ?_
        have hF : fL_isFeud PN a b = nextkk5 v16_0 := hF
        rw [hnextkk5] at hF
        exact ihkk5 jj5 (Nat.lt_succ_self _) (kk5 + 1) v16_0 (cn_next hkkk5) hF (by rw [hz16]; (try simp only [bd_eq]); (repeat' split); all_goals first | exact Or.inl rfl | exact Or.inr rfl) ls (lv_sub hl [0, 1, 2, 3, 4] rfl)
      have hF : ((if (nI x5_3) = 0 then (bd ((if b ≤ a then ((6 * b) + a) else ((6 * a) + b)) : Int32) (fun v27_0 => (if (fX1_itemAt 8 (PN 8) (PN 10 4) (nI kk5)) = v27_0 then 1 else 0))) else 1) : Nat) = (if (nI x5_3) = 0 then (bd ((if b ≤ a then ((6 * b) + a) else ((6 * a) + b)) : Int32) (fun v27_0 => (if (fX1_itemAt 8 (PN 8) (PN 10 4) (nI kk5)) = v27_0 then 1 else 0))) else 1) := rfl
      refine lv_if_ne (tgt := 48) hx hb dL_isFeud_16 (by decide) (fun c_16 => ?_) (fun c_16 => ?_)
      · have hF := hF.trans (if_neg c_16)
        refine lv_iconst (v := 1) hx hb dL_isFeud_48 (by decide) ?_
        refine lv_goto (tgt := 53) hx hb dL_isFeud_49 (by decide) ?_
        exact K16 _ hF.symm  ls (lv_sub hl [0, 1, 2, 3, 4] rfl)
      have hF := hF.trans (if_pos c_16)
      refine lv_aload_n hx hb dL_isFeud_19 rfl (lv_at hl 2 rfl) ?_
      refine lv_iload hx hb dL_isFeud_20 (lv_at hl 0 rfl) ?_
      have e_22 : (fX6_feudAt PN (nI kk5)) = Sum.inr ((fX1_itemAt 8 (PN 8) (PN 10 4) (nI kk5)), ()) := (feudAt_in (k := kk5) (by omega))
      refine k_calli (W.runV (As := [.int (nI kk5)]) (rest := []) ⟨hx, hb, hml, hown, hts0⟩ (mX6_feudAt l dC dI cI cP a0 aN aT aS t0 t1 t2 h0 h1 pa PN PT PS f u Ps oh vh k (nI kk5) (ok_inr e_22)) (cwV 1 hts0 (gi_V u_438 u_439 u_440 u_1 u_441) rfl rfl rfl (by decide +kernel) ⟨Nat.le_of_ble_eq_true rfl, Nat.le_of_ble_eq_true rfl⟩) (pcR_V (ci := 4) (q0 := 0) hP hK hn rfl rfl) rfl rfl hl.1 rfl (lv_room (Nat.le_of_ble_eq_true rfl)) dL_isFeud_22 ⟨Nat.zero_le _, Nat.zero_le _⟩) ?_
      refine lv_tope (y := (fX1_itemAt 8 (PN 8) (PN 10 4) (nI kk5))) (ok1_inr e_22) ?_
      refine lv_iload_n hx hb dL_isFeud_25 rfl (lv_at hl 3 rfl) ?_
      refine lv_iload_n hx hb dL_isFeud_26 rfl (lv_at hl 4 rfl) ?_
      have K27 : ∀ (v27_0 : Int32), v27_0 = (if b ≤ a then ((6 * b) + a) else ((6 * a) + b)) → ∀ (ls : Array Slot), lv_has ls 5 [(4, .int (nI kk5)), (3, .int (nI x5_3)), (0, .ref a0), (1, .int a), (2, .int b)] → W p l e rmL_isFeud s m args below meth c s.heap [] 0 0 Q (F0 m 45 ls [.int v27_0, .int (fX1_itemAt 8 (PN 8) (PN 10 4) (nI kk5))]) := by
        intro v27_0 hz27  ls hl
        have hz := hz27
        have hF := bd_at hF hz
        refine lv_icmp_ne (tgt := 52) hx hb dL_isFeud_45 (by decide) (fun c_45 => ?_) (fun c_45 => ?_)
        · have hF := hF.trans (if_neg c_45)
          refine lv_iconst (v := 0) hx hb dL_isFeud_52 (by decide) ?_
          exact K16 _ hF.symm  ls (lv_sub hl [0, 1, 2, 3, 4] rfl)
        have hF := hF.trans (if_pos c_45)
        refine lv_iconst (v := 1) hx hb dL_isFeud_48 (by decide) ?_
        refine lv_goto (tgt := 53) hx hb dL_isFeud_49 (by decide) ?_
        exact K16 _ hF.symm  ls (lv_sub hl [0, 1, 2, 3, 4] rfl)
      have hF : ((if b ≤ a then ((6 * b) + a) else ((6 * a) + b)) : Int32) = (if b ≤ a then ((6 * b) + a) else ((6 * a) + b)) := rfl
      refine lv_icmp_ge (tgt := 39) hx hb dL_isFeud_27 (by decide) (fun c_27 => ?_) (fun c_27 => ?_)
      · have hF := hF.trans (if_pos c_27)
        refine lv_bipush (v := 6) hx hb dL_isFeud_39 (by decide) ?_
        refine lv_iload_n hx hb dL_isFeud_41 rfl (lv_at hl 4 rfl) ?_
        refine lv_imul hx hb dL_isFeud_42 ?_
        refine lv_iload_n hx hb dL_isFeud_43 rfl (lv_at hl 3 rfl) ?_
        refine lv_iadd hx hb dL_isFeud_44 ?_
        exact K27 _ hF.symm  ls (lv_sub hl [0, 1, 2, 3, 4] rfl)
      have hF := hF.trans (if_neg c_27)
      refine lv_bipush (v := 6) hx hb dL_isFeud_30 (by decide) ?_
      refine lv_iload_n hx hb dL_isFeud_32 rfl (lv_at hl 3 rfl) ?_
      refine lv_imul hx hb dL_isFeud_33 ?_
      refine lv_iload_n hx hb dL_isFeud_34 rfl (lv_at hl 4 rfl) ?_
      refine lv_iadd hx hb dL_isFeud_35 ?_
      refine lv_goto (tgt := 45) hx hb dL_isFeud_36 (by decide) ?_
      exact K27 _ hF.symm  ls (lv_sub hl [0, 1, 2, 3, 4] rfl)
  exact L5 ((PN 10 4).toNatClampNeg) 0 0 (Nat.zero_add _) hF (Or.inl rfl) ls (lv_sub hl [0, 1, 2, 3, 4] rfl)
