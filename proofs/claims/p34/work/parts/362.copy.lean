def pcC (D : va_G) (tys : List (ClassId × FieldType)) (ws : va_W) (q n : Nat) (f : Nat → Int32) (av : List Value) : Array Value → State → Prop := va_Pc av (fun U => va_P D vwCl ws U.heap ∧ va_K D vwCl tys U ∧ nst U ∧ va_D (fun _ => True) ws ∧ va_T .int q n (fun k => .int (f k)) (adr ws) U U.heap)
theorem pcC_blind {D : va_G} {tys : List (ClassId × FieldType)} {ws : va_W} {q n : Nat} {f : Nat → Int32} {av : List Value} : FrameBlind (pcC D tys ws q n f av) := fun a U g mk h => ⟨h.1, h.2.1, va_K.moved (u := U) (U := U.calling g mk a) (Vm.Alike.refl U.vm) h.2.2.1, nst_same (u := U) (U := U.calling g mk a) rfl h.2.2.2.1, h.2.2.2.2.1, va_T.moved (u := U) (U := U.calling g mk a) (Vm.Alike.refl U.vm) h.2.2.2.2.2⟩
theorem pcC_S {s : State} {H : Heap} {D : va_G} {tys : List (ClassId × FieldType)} {ws : va_W} {q n : Nat} {f : Nat → Int32} {A : Nat → Prop} {As : List Value} {locs : List Loc} (hP : va_P D vwCl ws H) (hK : va_K D vwCl tys s) (hn : nst s) (hD : va_D A ws) (hT : va_T .int q n (fun k => .int (f k)) A s s.heap) (hS : va_S A s.heap H locs) : PreS s H (pcC D tys ws q n f As) As := ⟨pcC_blind, fun U hU hW => ⟨rfl, by rw [hU]; exact hP, va_K.moved hW.alike hK, nst_warm hW hn, hD.weaken (fun _ _ _ _ => trivial), by rw [hU]; exact (va_T.moved hW.alike (hT.kept hS.2.1)).narrow (D_addr.mp hD).2⟩⟩
set_option maxHeartbeats 4000000 in
set_option maxRecDepth 100000 in
theorem mX3_copyS (l : Launch) (dC : Nat → ClassId) (dI : Nat → Nat → Nat) (cI : ClassId) (q n : Nat) (hn9 : n < 2 ^ 31) (f : Nat → Int32) (q9 n2 : Nat) (hn8 : n2 < 2 ^ 31) (f2 : Nat → Int32) : Met l yX3_copy (ws_ yX3_copy cX3_copy 3 none) rmX3_copy (pcC (dC, dI) [(cI, .int)] (aW cI q9 n2 f2) q n f [.ref q, .ref q9]) (va_Qv (fun (u9 : (Nat → Int32)) => u9 = fX3_copy n f n2 f2) (fun u9 t => va_P (dC, dI) vwCl ((fun (v : (Nat → Int32)) => aW cI q9 n2 v) u9) t.heap) (adr (aW cI q9 n2 f2))) 0 0 (adr (aW cI q9 n2 f2)) := by
  refine Met.ofW (cc := cX3_copy) (maxL := 3) (ret := none) (by decide) rfl ?_
  intro p e s m args below meth c s₁ B hml hv
  obtain ⟨ha, hP, hK, hn, hD0, hPf⟩ := hv
  have hx := B.exec
  have hb := B.bytes
  have hr := B.returns
  have hts0 := atoms_spec (ws := (ws_ yX3_copy cX3_copy 3 none)) B.pre
  have hts : ∀ w ∈ lw_all, w.before args s = true := fun w h => hts0 w (List.mem_cons_of_mem _ h)
  have hown : s.vm.findClass RX3 = some m.cls := findClass_of_methodNamed B.named
  have hlocks := B.notSynchronized
  have hD := adr_self hD0
  obtain ⟨A, hA⟩ : ∃ A, A = adr (aW cI q9 n2 f2) := ⟨_, rfl⟩
  rw [← hA] at hD hPf
  have hS : va_S A s.heap s.heap [] := va_S.rf
  obtain ⟨Q, hQ⟩ : ∃ Q, Q = MQ below (va_Qv (fun (u9 : (Nat → Int32)) => u9 = fX3_copy n f n2 f2) (fun u9 t => va_P (dC, dI) vwCl ((fun (v : (Nat → Int32)) => aW cI q9 n2 v) u9) t.heap) (adr (aW cI q9 n2 f2))) args s 0 0 (adr (aW cI q9 n2 f2)) := ⟨_, rfl⟩
  rw [← hQ]
  rw [← hA] at hQ
  have hl := lv_entry ([.ref q, .ref q9]) (n := 3) (Nat.le_of_ble_eq_true rfl)
  rw [ha, lg_entry_eq, ← ha]
  generalize (lg_sl ([.ref q, .ref q9]) ++ List.replicate (3 - (lg_sl ([.ref q, .ref q9])).length) Slot.unset).toArray = ls at hl ⊢
  have hl : lv_has ls 3 [(0, .ref q), (1, .ref q9)] := hl
  show W p l e rmX3_copy s m args below meth c s.heap [] 0 0 Q (F0 m 0 ls [])
  have hF : fX3_copy n f n2 f2 = fX3_copy n f n2 f2 := rfl
  refine lv_iconst (v := 0) hx hb dX3_copy_0 (by decide) ?_
  refine lv_istore_n (lv' := [(2, .int 0), (0, .ref q), (1, .ref q9)]) hx hb dX3_copy_1 rfl hl (by decide) rfl (fun ls hl => ?_)
  have L2 : ∀ (jj2 kk2 : Nat) (U2_0 : Nat → Int32), kk2 + jj2 = ((nI n).toNatClampNeg) → fX3_copy n f n2 f2 = lq1 (fX3_copy_b2 f n2) fX3_copy_r2 jj2 kk2 U2_0 → ∀ (H : Heap) (locs : List Loc), va_P (dC, dI) vwCl (aW cI q9 n2 U2_0) H → va_D A (aW cI q9 n2 U2_0) → va_S A s.heap H locs → ∀ (ls : Array Slot), lv_has ls 3 [(2, .int (nI kk2)), (0, .ref q), (1, .ref q9)] → W p l e rmX3_copy s m args below meth c H locs 0 0 Q (F0 m 2 ls []) := by
    intro jj2
    induction jj2 using Nat.strongRecOn with
    | _ jj2 ihkk2 =>
      intro kk2 U2_0 hkkk2 hF H locs hP hD hS ls hl
      refine lv_iload_n hx hb dX3_copy_2 rfl (lv_at hl 0 rfl) ?_
      refine lv_aload_n hx hb dX3_copy_3 rfl (lv_at hl 1 rfl) ?_
      refine va_tlen (v := (nI n)) hx hb hPf hS rfl dX3_copy_4 ?_
      refine lv_icmp_ge (tgt := 26) hx hb dX3_copy_5 (by decide) (fun c_5 => ?_) (fun c_5 => ?_)
      · obtain rfl := cn_exit hkkk2 c_5
        have hF := hF.trans (lq1_z _ _ _ _)
        rw [hQ]
        exact W.vret hx hb hr (fun t ht hW => ⟨⟨U2_0, rfl, hF.symm, toH ht hP⟩, hS.F ht⟩) hS.2.2 dX3_copy_26
      obtain ⟨jj2, rfl⟩ := cn_go hkkk2 c_5
      have hF := hF.trans (lq1_s _ _ _ _ _)
      obtain ⟨nextkk2, hnextkk2⟩ : ∃ y9, y9 = lq1 (fX3_copy_b2 f n2) fX3_copy_r2 jj2 (kk2 + 1) := ⟨_, rfl⟩
      rw [← hnextkk2] at hF
      refine lv_iload_n hx hb dX3_copy_8 rfl (lv_at hl 0 rfl) ?_
      refine lv_aload_n hx hb dX3_copy_9 rfl (lv_at hl 2 rfl) ?_
      refine va_alen (v := (nI n2)) hx hb hK hP 0 0 rfl rfl rfl dX3_copy_10 ?_
      refine lv_icmp_ge (tgt := 26) hx hb dX3_copy_11 (by decide) (fun c_11 => ?_) (fun c_11 => ?_)
      · have hF := hF.trans (if_pos c_11)
        rw [hQ]
        exact W.vret hx hb hr (fun t ht hW => ⟨⟨U2_0, rfl, hF.symm, toH ht hP⟩, hS.F ht⟩) hS.2.2 dX3_copy_26
      have hF := hF.trans (if_neg c_11)
      refine lv_aload_n hx hb dX3_copy_14 rfl (lv_at hl 2 rfl) ?_
      refine lv_iload_n hx hb dX3_copy_15 rfl (lv_at hl 0 rfl) ?_
      refine lv_aload_n hx hb dX3_copy_16 rfl (lv_at hl 1 rfl) ?_
      refine lv_iload_n hx hb dX3_copy_17 rfl (lv_at hl 0 rfl) ?_
      refine va_ti hx hb hPf hS (vin_k hn9 hkkk2 c_5) rfl dX3_copy_18 ?_
      refine va_iast hx hb hK hP hD hS 0 0 rfl rfl (vin_k hn8 hkkk2 c_11) dX3_copy_19 (fun H locs hP hD hS => ?_)
      have hP : va_P (dC, dI) vwCl (aW cI q9 n2 (upd U2_0 (nI kk2).toNatClampNeg (f (nI kk2).toNatClampNeg))) H := hP
      have hD : va_D A (aW cI q9 n2 (upd U2_0 (nI kk2).toNatClampNeg (f (nI kk2).toNatClampNeg))) := hD
      refine lv_iinc (v := (nI (kk2 + 1))) (lv' := [(2, .int (nI (kk2 + 1))), (0, .ref q), (1, .ref q9)]) hx hb dX3_copy_20 hl (k := 0) rfl (nI_1 _) (by decide) rfl (fun ls hl => ?_)
      refine lv_goto (tgt := 2) hx hb dX3_copy_23 (by decide) ?_
      have hF : fX3_copy n f n2 f2 = nextkk2 (upd U2_0 (nI kk2).toNatClampNeg (f (nI kk2).toNatClampNeg)) := hF
      rw [hnextkk2] at hF
      exact ihkk2 jj2 (Nat.lt_succ_self _) (kk2 + 1) (upd U2_0 (nI kk2).toNatClampNeg (f (nI kk2).toNatClampNeg)) (cn_next hkkk2) hF _ _ hP hD hS ls (lv_sub hl [0, 1, 2] rfl)
  exact L2 ((nI n).toNatClampNeg) 0 f2 (Nat.zero_add _) hF _ _ hP hD hS ls (lv_sub hl [0, 1, 2] rfl)

