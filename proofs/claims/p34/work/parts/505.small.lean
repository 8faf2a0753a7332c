/-! the law's small methods. Mine (rows laid by program). -/
def fL_up (v : Int32) (n : Int32) : Int32 :=
  ((v &&& (2147483647 : Int32)) - (v &&& (2147483647 : Int32)) / n * n)
abbrev rmL_up : Room := { frames := 0, cells := 0, slots := 0, locals := 0 }
set_option maxHeartbeats 4000000 in
set_option maxRecDepth 100000 in
theorem mL_up (l : Launch) (dC : Nat → ClassId) (dI : Nat → Nat → Nat)  (v : Int32) (n : Int32) (hn0 : ¬ n = 0) : Met l yL_up (ws_ yL_up cL_up 2 (some .int)) rmL_up (pcR (dC, dI) [] [] [.int v, .int n]) (vp_Si (fun r => r = fL_up v n)) 0 0 (fun _ => False) := by
  refine Met.ofW (cc := cL_up) (maxL := 2) (ret := (some .int)) (by decide) rfl ?_
  intro p e s m args below meth c s₁ B hml hv
  obtain ⟨ha, hP, hK, hn⟩ := hv
  have hx := B.exec
  have hb := B.bytes
  have hr := B.returns
  have hts0 := atoms_spec (ws := (ws_ yL_up cL_up 2 (some .int))) B.pre
  have hts : ∀ w ∈ lw_all, w.before args s = true := fun w h => hts0 w (List.mem_cons_of_mem _ h)
  have hown : s.vm.findClass RL = some m.cls := findClass_of_methodNamed B.named
  have hlocks := B.notSynchronized
  obtain ⟨Q, hQ⟩ : ∃ Q, Q = MQ below (vp_Si (fun r => r = fL_up v n)) args s 0 0 (fun _ => False) := ⟨_, rfl⟩
  rw [← hQ]
  have hl := lv_entry ([.int v, .int n]) (n := 2) (Nat.le_of_ble_eq_true rfl)
  rw [ha, lg_entry_eq, ← ha]
  generalize (lg_sl ([.int v, .int n]) ++ List.replicate (2 - (lg_sl ([.int v, .int n])).length) Slot.unset).toArray = ls at hl ⊢
  have hl : lv_has ls 2 [(0, .int v), (1, .int n)] := hl
  show W p l e rmL_up s m args below meth c s.heap [] 0 0 Q (F0 m 0 ls [])
  have hF : fL_up v n = fL_up v n := rfl
  refine lv_iload_n hx hb dL_up_0 rfl (lv_at hl 0 rfl) ?_
  refine lv_ldc (v := 2147483647) hx hb hown (hts _ u_353) dL_up_1 ?_
  refine lv_iand hx hb dL_up_3 ?_
  refine lv_iload_n hx hb dL_up_4 rfl (lv_at hl 1 rfl) ?_
  refine lv_irem hx hb dL_up_5 hn0 ?_
  rw [hQ]
  exact W.iret (v := ((v &&& (2147483647 : Int32)) - (v &&& (2147483647 : Int32)) / n * n)) hx hb hr (fun t ht hW => ⟨((v &&& (2147483647 : Int32)) - (v &&& (2147483647 : Int32)) / n * n), rfl, hF.symm, ht⟩) (fun q hq => absurd hq List.not_mem_nil) dL_up_6

def fL_bits_b4 (v : Int32) (kk4 : Nat) (x4_1 : Int32) (nextkk4 : Int32 → Int32) : Int32 :=
  (nextkk4 (x4_1 + ((v >>> ((nI kk4) &&& 31)) &&& 1)))
def fL_bits_r4 (x4_1 : Int32) : Int32 :=
  x4_1
def fL_bits (v : Int32) : Int32 :=
  (lq1 (fL_bits_b4 v) fL_bits_r4 6 0 0)
abbrev rmL_bits : Room := { frames := 0, cells := 0, slots := 0, locals := 0 }
set_option maxHeartbeats 4000000 in
set_option maxRecDepth 100000 in
theorem mL_bits (l : Launch) (dC : Nat → ClassId) (dI : Nat → Nat → Nat)  (v : Int32) : Met l yL_bits (ws_ yL_bits cL_bits 3 (some .int)) rmL_bits (pcR (dC, dI) [] [] [.int v]) (vp_Si (fun r => r = fL_bits v)) 0 0 (fun _ => False) := by
  refine Met.ofW (cc := cL_bits) (maxL := 3) (ret := (some .int)) (by decide) rfl ?_
  intro p e s m args below meth c s₁ B hml hv
  obtain ⟨ha, hP, hK, hn⟩ := hv
  have hx := B.exec
  have hb := B.bytes
  have hr := B.returns
  have hts0 := atoms_spec (ws := (ws_ yL_bits cL_bits 3 (some .int))) B.pre
  have hts : ∀ w ∈ lw_all, w.before args s = true := fun w h => hts0 w (List.mem_cons_of_mem _ h)
  have hown : s.vm.findClass RL = some m.cls := findClass_of_methodNamed B.named
  have hlocks := B.notSynchronized
  obtain ⟨Q, hQ⟩ : ∃ Q, Q = MQ below (vp_Si (fun r => r = fL_bits v)) args s 0 0 (fun _ => False) := ⟨_, rfl⟩
  rw [← hQ]
  have hl := lv_entry ([.int v]) (n := 3) (Nat.le_of_ble_eq_true rfl)
  rw [ha, lg_entry_eq, ← ha]
  generalize (lg_sl ([.int v]) ++ List.replicate (3 - (lg_sl ([.int v])).length) Slot.unset).toArray = ls at hl ⊢
  have hl : lv_has ls 3 [(0, .int v)] := hl
  show W p l e rmL_bits s m args below meth c s.heap [] 0 0 Q (F0 m 0 ls [])
  have hF : fL_bits v = fL_bits v := rfl
  refine lv_iconst (v := 0) hx hb dL_bits_0 (by decide) ?_
  refine lv_istore_n (lv' := [(1, .int 0), (0, .int v)]) hx hb dL_bits_1 rfl hl (by decide) rfl (fun ls hl => ?_)
  refine lv_iconst (v := 0) hx hb dL_bits_2 (by decide) ?_
  refine lv_istore_n (lv' := [(2, .int 0), (1, .int 0), (0, .int v)]) hx hb dL_bits_3 rfl hl (by decide) rfl (fun ls hl => ?_)
  have L4 : ∀ (jj4 kk4 : Nat) (x4_1 : Int32), kk4 + jj4 = 6 → fL_bits v = lq1 (fL_bits_b4 v) fL_bits_r4 jj4 kk4 x4_1 → ∀ (ls : Array Slot), lv_has ls 3 [(2, .int (nI kk4)), (1, .int x4_1), (0, .int v)] → W p l e rmL_bits s m args below meth c s.heap [] 0 0 Q (F0 m 4 ls []) := by
    intro jj4
    induction jj4 using Nat.strongRecOn with
    | _ jj4 ihkk4 =>
      intro kk4 x4_1 hkkk4 hF  ls hl
      refine lv_iload_n hx hb dL_bits_4 rfl (lv_at hl 0 rfl) ?_
      refine lv_bipush (v := 6) hx hb dL_bits_5 (by decide) ?_
      refine lv_icmp_ge (tgt := 24) hx hb dL_bits_7 (by decide) (fun c_7 => ?_) (fun c_7 => ?_)
      · obtain rfl := cn_exitN (N := 6) hkkk4 (by decide) c_7
        have hF := hF.trans (lq1_z _ _ _ _)
        refine lv_iload_n hx hb dL_bits_24 rfl (lv_at hl 1 rfl) ?_
        rw [hQ]
        exact W.iret (v := x4_1) hx hb hr (fun t ht hW => ⟨x4_1, rfl, hF.symm, ht⟩) (fun q hq => absurd hq List.not_mem_nil) dL_bits_25
      obtain ⟨jj4, rfl⟩ := cn_goN (N := 6) hkkk4 (by decide) c_7
      have hF := hF.trans (lq1_s _ _ _ _ _)
      obtain ⟨nextkk4, hnextkk4⟩ : ∃ y9, y9 = lq1 (fL_bits_b4 v) fL_bits_r4 jj4 (kk4 + 1) := ⟨_, rfl⟩
      rw [← hnextkk4] at hF
      refine lv_iload_n hx hb dL_bits_10 rfl (lv_at hl 1 rfl) ?_
      refine lv_iload_n hx hb dL_bits_11 rfl (lv_at hl 2 rfl) ?_
      refine lv_iload_n hx hb dL_bits_12 rfl (lv_at hl 0 rfl) ?_
      refine lv_ishr hx hb dL_bits_13 ?_
      refine lv_iconst (v := 1) hx hb dL_bits_14 (by decide) ?_
      refine lv_iand hx hb dL_bits_15 ?_
      refine lv_iadd hx hb dL_bits_16 ?_
      refine lv_istore_n (lv' := [(1, .int (x4_1 + ((v >>> ((nI kk4) &&& 31)) &&& 1))), (2, .int (nI kk4)), (0, .int v)]) hx hb dL_bits_17 rfl hl (by decide) rfl (fun ls hl => ?_)
      refine lv_iinc (v := (nI (kk4 + 1))) (lv' := [(2, .int (nI (kk4 + 1))), (1, .int (x4_1 + ((v >>> ((nI kk4) &&& 31)) &&& 1))), (0, .int v)]) hx hb dL_bits_18 hl (k := 1) rfl (nI_1 _) (by decide) rfl (fun ls hl => ?_)
      refine lv_goto (tgt := 4) hx hb dL_bits_21 (by decide) ?_
      have hF : fL_bits v = nextkk4 (x4_1 + ((v >>> ((nI kk4) &&& 31)) &&& 1)) := hF
      rw [hnextkk4] at hF
      exact ihkk4 jj4 (Nat.lt_succ_self _) (kk4 + 1) (x4_1 + ((v >>> ((nI kk4) &&& 31)) &&& 1)) (cn_next hkkk4) hF ls (lv_sub hl [0, 1, 2] rfl)
  exact L4 6 0 0 (Nat.zero_add _) hF ls (lv_sub hl [0, 1, 2] rfl)
