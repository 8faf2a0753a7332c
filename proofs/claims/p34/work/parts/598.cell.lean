/-! a number of the script, or another beyond its end. Mine. -/
def pcY (b N : Nat) (xs : Nat → Int32) (k : Nat) : Array Value → State → Prop := va_Pc [.ref b, .int (nI k)] (fun U => va_X b N xs U U.heap ∧ b < U.heap.size)
theorem pcY_S {s : State} {H : Heap} {A : Nat → Prop} {locs : List Loc} {b N k : Nat} {xs : Nat → Int32} (hX : va_X b N xs s s.heap) (hbl : b < s.heap.size) (hbA : ¬ A b) (hS : va_S A s.heap H locs) : PreS s H (pcY b N xs k) [.ref b, .int (nI k)] := ⟨fun a U g mk q => ⟨q.1, va_X.moved (u := U) (U := U.calling g mk a) (Vm.Alike.refl U.vm) q.2.1, q.2.2⟩, fun U hU hW => ⟨rfl, by rw [hU]; exact va_X.moved hW.alike (hX.kept (hS.2.1 b hbl hbA)), by rw [hU]; exact Nat.lt_of_lt_of_le hbl hS.1⟩⟩
def cv (N : Nat) (xs : Nat → Int32) (k : Nat) : Int32 := if k < N then xs k else (1812433253 : Int32) * (nI k + 239)
abbrev rmL_cell : Room := { frames := 0, cells := 0, slots := 0, locals := 0 }
set_option maxHeartbeats 4000000 in
set_option maxRecDepth 100000 in
theorem mL_cell (l : Launch) (b N : Nat) (xs : Nat → Int32) (k : Nat) (hk : k < 2 ^ 31) (hN : N < 2 ^ 31) : Met l yL_cell (ws_ yL_cell cL_cell 2 (some .int)) rmL_cell (pcY b N xs k) (vp_Si (fun r => r = cv N xs k)) 0 0 (fun _ => False) := by
  refine Met.ofW (cc := cL_cell) (maxL := 2) (ret := (some .int)) (by decide) rfl ?_
  intro p e s m args below meth c s₁ B hml hv
  obtain ⟨ha, hX, hbl⟩ := hv
  have hx := B.exec
  have hb := B.bytes
  have hr := B.returns
  have hts0 := atoms_spec (ws := (ws_ yL_cell cL_cell 2 (some .int))) B.pre
  have hts : ∀ w ∈ lw_all, w.before args s = true := fun w h => hts0 w (List.mem_cons_of_mem _ h)
  have hown : s.vm.findClass RL = some m.cls := findClass_of_methodNamed B.named
  have hlocks := B.notSynchronized
  have hS : va_S (fun _ => False) s.heap s.heap [] := va_S.rf
  obtain ⟨Q, hQ⟩ : ∃ Q, Q = MQ below (vp_Si (fun r => r = cv N xs k)) args s 0 0 (fun _ => False) := ⟨_, rfl⟩
  rw [← hQ]
  have hl := lv_entry ([.ref b, .int (nI k)]) (n := 2) (Nat.le_of_ble_eq_true rfl)
  rw [ha, lg_entry_eq, ← ha]
  generalize (lg_sl ([.ref b, .int (nI k)]) ++ List.replicate (2 - (lg_sl ([.ref b, .int (nI k)])).length) Slot.unset).toArray = ls at hl ⊢
  have hl : lv_has ls 2 [(0, .ref b), (1, .int (nI k))] := hl
  show W p l e rmL_cell s m args below meth c s.heap [] 0 0 Q (F0 m 0 ls [])
  refine lv_iload_n hx hb dL_cell_0 rfl (lv_at hl 1 rfl) ?_
  refine lv_aload_n hx hb dL_cell_1 rfl (lv_at hl 0 rfl) ?_
  refine va_slen hx hb hX hbl (fun z => z) hS dL_cell_2 ?_
  refine lv_icmp_ge (tgt := 12) hx hb dL_cell_3 (by decide) (fun c9 => ?_) (fun c9 => ?_)
  · have c9 : nI N ≤ nI k := c9
    rw [nI_leI hN hk] at c9
    refine lv_ldc (v := 1812433253) hx hb hown (hts _ u_349) dL_cell_12 ?_
    refine lv_iload_n hx hb dL_cell_14 rfl (lv_at hl 1 rfl) ?_
    refine lv_sipush (v := 239) hx hb dL_cell_15 (by decide) ?_
    refine lv_iadd hx hb dL_cell_18 ?_
    refine lv_imul hx hb dL_cell_19 ?_
    rw [hQ]
    exact W.iret (v := ((1812433253 : Int32) * (nI k + 239))) hx hb hr (fun t ht hW => ⟨((1812433253 : Int32) * (nI k + 239)), rfl, (if_neg (Nat.not_lt.mpr c9)).symm, ht⟩) (fun q hq => absurd hq List.not_mem_nil) dL_cell_20
  · have c9 : ¬ nI N ≤ nI k := c9
    rw [nI_leI hN hk] at c9
    have c9 : k < N := Nat.not_le.mp c9
    refine lv_aload_n hx hb dL_cell_6 rfl (lv_at hl 0 rfl) ?_
    refine lv_iload_n hx hb dL_cell_7 rfl (lv_at hl 1 rfl) ?_
    refine va_sld hx hb hX hbl (fun z => z) hS (vp_in_nI c9 hN) dL_cell_8 ?_
    rw [nI_clamp hk]
    refine lv_goto (tgt := 20) hx hb dL_cell_9 (by decide) ?_
    rw [hQ]
    exact W.iret (v := xs k) hx hb hr (fun t ht hW => ⟨xs k, rfl, (if_pos c9).symm, ht⟩) (fun q hq => absurd hq List.not_mem_nil) dL_cell_20
/-! rows of the law's: a call whose post has more, what is asked ahead, a history's length, a seat's guest. Mine. -/
section KE
variable {p : Program} {l : Launch} {e : Env} {R : Room} {s : State} {m : MethodId} {args : Array Value} {below : List Frame} {meth : Method} {c : Code} {H : Heap} {locs : List Loc} {cells slots : Nat} {Q : State → Prop}
variable {pc : Nat} {ls : Array Slot} {rest st0 : List Value} {a : Array Value} {A : Nat → Prop} {D : va_G} {wf : va_W} {mc ms : Nat}
theorem k_deed3 {S : Type} {F : Int32 × S} {r0 : Int32} {u0 : S} {Z : Int32 → S → Prop} {W1 : S → va_W} (e9 : F = (r0, u0)) (hr : va_Run p l e R s m args below meth c H locs cells slots mc ms (F0 m pc ls st0) rest (va_Qi (fun r u => (r, u) = F ∧ Z r u) (fun u t => va_P D vwCl (W1 u) t.heap) (adr wf) a) (adr wf))
    (hP : va_P D vwCl wf H) (hD : va_D A wf) (hS : va_S A s.heap H locs) (hw : (W1 u0).map (fun c => c.1) = wf.map (fun c => c.1))
    (kk : Z r0 u0 → ∀ (H1 : Heap) (locs1 : List Loc), va_P D vwCl (W1 u0) H1 → va_D A (W1 u0) → va_S A s.heap H1 locs1 → W p l e R s m args below meth c H1 locs1 (cells + mc) (slots + ms) Q (F0 m (pc + 3) ls (.int r0 :: rest))) : W p l e R s m args below meth c H locs cells slots Q (F0 m pc ls st0) := by
  have hA : ∀ q, adr wf q → A q := (D_addr.mp hD).2
  refine va_calli hr hS (fun q _ h => hA q h) hA (fun r u t H1 locs1 ht hvm hp hB hz hk hS1 => ?_)
  obtain ⟨hp, hZ⟩ := hp
  rw [e9] at hp
  obtain ⟨rfl, rfl⟩ := Prod.mk.inj hp
  rw [ht] at hB
  exact kk hZ H1 locs1 hB (D_addr.mpr (by rw [hw]; exact D_addr.mp hD)) hS1
theorem k_some {S : Type} {v : Int32} {Z : S → Prop} {W1 : S → va_W} (hr : va_Run p l e R s m args below meth c H locs cells slots mc ms (F0 m pc ls st0) rest (va_Qi (fun r u => r = v ∧ Z u) (fun u t => va_P D vwCl (W1 u) t.heap) (adr wf) a) (adr wf))
    (hP : va_P D vwCl wf H) (hD : va_D A wf) (hS : va_S A s.heap H locs) (hw : ∀ u, (W1 u).map (fun c => c.1) = wf.map (fun c => c.1))
    (kk : ∀ u0 : S, Z u0 → ∀ (H1 : Heap) (locs1 : List Loc), va_P D vwCl (W1 u0) H1 → va_D A (W1 u0) → va_S A s.heap H1 locs1 → W p l e R s m args below meth c H1 locs1 (cells + mc) (slots + ms) Q (F0 m (pc + 3) ls (.int v :: rest))) : W p l e R s m args below meth c H locs cells slots Q (F0 m pc ls st0) := by
  have hA : ∀ q, adr wf q → A q := (D_addr.mp hD).2
  refine va_calli hr hS (fun q _ h => hA q h) hA (fun r u t H1 locs1 ht hvm hp hB hz hk hS1 => ?_)
  obtain ⟨rfl, hZ⟩ := hp
  rw [ht] at hB
  exact kk u hZ H1 locs1 hB (D_addr.mpr (by rw [hw]; exact D_addr.mp hD)) hS1
end KE
theorem cap6 {v : Nat} (h : v ≤ 6) : (if (6 : Int32) ≤ nI v then 6 else v + 1 : Nat) = if v < 6 then v + 1 else 6 := by
  rw [show (6 : Int32) = nI 6 from rfl]
  by_cases c : v < 6
  · rw [if_pos c, if_neg (fun z => by rw [nI_leI (by decide) (by omega)] at z; omega)]
  · rw [if_neg c, if_pos (by rw [nI_leI (by decide) (by omega)]; omega)]
theorem keep_is (PN PS : PV) : fX6_keep PN PS = (PN 10 5, (fX2_copyFrom PS PN, 1)) := by
  unfold fX6_keep
  rw [bd_eq, len_id]
theorem keep_NW {PN PS : PV} (h : NW PN) : NW (fX2_copyFrom PS PN) := by
  obtain ⟨f, G, T, L, hR, hX⟩ := h
  exact ⟨f, G, T, L, copy_REL0 hR, hX⟩
/-- what holds at the law's start -/
def LBd (p : Program) (s : State) (m : MethodId) (c : Code) (b N : Nat) (xs : Nat → Int32) (A : Nat → Prop) (dC : Nat → ClassId) (dI : Nat → Nat → Nat) (cI cP : ClassId) (qL qG : Nat) : Prop :=
  p.tables.exec = Jvm.exec ∧ c.code = cL_law ∧ c.maxLocals = 13 ∧ s.vm.findClass RL = some m.cls ∧ (∀ w ∈ (Cond.initialized "SupperSeatsLaw" :: lw_all), w.before #[Value.ref b] s = true) ∧ va_X b N xs s s.heap ∧ b < s.heap.size ∧ ¬ A b ∧ (∀ q : Nat, s.heap.size ≤ q → A q) ∧ va_K (dC, dI) vwCl [(cI, .int), (cP, .object "SupperSeats$Plan")] s ∧ nst s ∧ xst A cI qL qG s
