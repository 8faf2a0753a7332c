/-! the law's rows: an argument read, a call on some blocks, what a call's answers are held against. Mine. -/
/-- what holds of the law's start -/
def LBd (p : Program) (s : State) (m : MethodId) (c : Code) (b L : Nat) (xs : Nat → Int32) (A : Nat → Prop) (dC : Nat → ClassId) (dI : Nat → Nat → Nat) (cI cP cL : ClassId) (qL qG : Nat) : Prop :=
  p.tables.exec = Jvm.exec ∧ c.code = cL_law ∧ c.maxLocals = 9 ∧ s.vm.findClass RL = some m.cls ∧ (∀ w ∈ (Cond.initialized "SupperSeats" :: lw_all), w.before #[Value.ref b] s = true) ∧ va_X b L xs s s.heap ∧ b < s.heap.size ∧ ¬ A b ∧ (∀ q : Nat, s.heap.size ≤ q → A q) ∧ va_K (dC, dI) vwCl [(cI, .int), (cP, .object "SupperSeats$Plan"), (cL, .long)] s ∧ nst s ∧ xok A s ∧ xnc s ∧ xst A cI qL qG s
section LR
variable {p : Program} {l : Launch} {e : Env} {R : Room} {s : State} {m : MethodId} {args : Array Value} {below : List Frame} {meth : Method} {c : Code} {H : Heap} {locs : List Loc} {cells slots : Nat} {Q : State → Prop}
variable {pc : Nat} {ls : Array Slot} {rest st0 : List Value} {a : Array Value} {A : Nat → Prop} {D : va_G} {wo wf wm : va_W} {mc ms : Nat}
/-- an argument of a call is read off the script -/
theorem law_arg {b L i j : Nat} {xs : Nat → Int32} {n : Int} (hx : p.tables.exec = Jvm.exec) (hb : c.code = cL_law) (hX : va_X b L xs s s.heap) (hbl : b < s.heap.size) (hbA : ¬ A b) (hS : va_S A s.heap H locs) (hi : i + j < L) (hL : L ≤ 2048) (h0 : ls[0]? = some (.val (.ref b))) (h4 : ls[4]? = some (.val (.int (nI i)))) (hj : Int32.ofInt n = nI j)
    (d0 : decode cL_law pc = .ok (.aload_n 0, 1)) (d1 : decode cL_law (pc + 1) = .ok (.iload 4, 2)) (d3 : decode cL_law (pc + 3) = .ok (.iconst n, 1)) (d4 : decode cL_law (pc + 4) = .ok (.iadd, 1)) (d5 : decode cL_law (pc + 5) = .ok (.iaload, 1))
    (kk : W p l e R s m args below meth c H locs cells slots Q (F0 m (pc + 6) ls (.int (xs (i + j)) :: rest))) : W p l e R s m args below meth c H locs cells slots Q (F0 m pc ls rest) := by
  refine lv_aload_n hx hb d0 rfl h0 ?_
  refine lv_iload hx hb d1 h4 ?_
  refine lv_iconst (v := nI j) hx hb d3 hj ?_
  refine lv_iadd hx hb d4 ?_
  rw [nI_add]
  refine va_sld hx hb hX hbl hbA hS (vp_in_nI hi (by omega)) d5 ?_
  rw [nI_clamp (by omega)]
  exact kk
/-- a call of a wrapper: on the first two of three blocks -/
theorem k_wrap {S : Type} {post : Int32 → S → Prop} {Wo Wf : S → va_W} (hr : vx_Run p l e R s m args below meth c H locs cells slots mc ms (F0 m pc ls st0) rest (va_Qi post (fun u t => va_P D vwCl (fl [Wo u, Wf u]) t.heap) (adr (fl [wo, wf])) a) (vx_X (fun _ : Unit => False) (fun _ _ _ => True) (adr (fl [wo, wf]))) (adr (fl [wo, wf])))
    (hP : va_P D vwCl (fl [wo, wf, wm]) H) (hD : va_D A (fl [wo, wf, wm])) (hS : va_S A s.heap H locs) (hwo : ∀ u, (Wo u).map (fun c => c.1) = wo.map (fun c => c.1)) (hwf : ∀ u, (Wf u).map (fun c => c.1) = wf.map (fun c => c.1))
    (kk : ∀ (r : Int32) (u : S) (H1 : Heap) (locs1 : List Loc), post r u → va_P D vwCl (fl [Wo u, Wf u, wm]) H1 → va_D A (fl [Wo u, Wf u, wm]) → va_S A s.heap H1 locs1 → W p l e R s m args below meth c H1 locs1 (cells + mc) (slots + ms) Q (F0 m (pc + 3) ls (.int r :: rest))) : W p l e R s m args below meth c H locs cells slots Q (F0 m pc ls st0) := by
  have hA : ∀ q, adr (fl [wo, wf]) q → A q := adr_fl (wc := [wo, wf]) hD [0, 1] rfl rfl
  refine vx_calli hr hS (fun q _ h => hA q h) hA (fun q _ h => hA q h) (fun E ce q9 u t H1 locs1 ht hvm hp hB hz hk hS1 he hv hc => hp.elim) (fun r u t H1 locs1 ht hvm hp hB hz hk hS1 => ?_)
  rw [ht] at hB
  obtain ⟨h1, h2⟩ := blk (wc := [wo, wf]) (w1 := [Wo u, Wf u]) hP hD [0, 1] rfl rfl (by simp only [bad, List.map_cons, List.map_nil, hwo u, hwf u]) hk hB
  exact kk r u H1 locs1 hp h1 h2 hS1
/-- a call of the reference: on the third of three blocks -/
theorem k_modi {S : Type} {post : Int32 → S → Prop} {Wm : S → va_W} (hr : va_Run p l e R s m args below meth c H locs cells slots 0 0 (F0 m pc ls st0) rest (va_Qi post (fun u t => va_P D vwCl (Wm u) t.heap) (adr wm) a) (adr wm))
    (hP : va_P D vwCl (fl [wo, wf, wm]) H) (hD : va_D A (fl [wo, wf, wm])) (hS : va_S A s.heap H locs) (hw : ∀ u, (Wm u).map (fun c => c.1) = wm.map (fun c => c.1))
    (kk : ∀ (r : Int32) (u : S) (H1 : Heap) (locs1 : List Loc), post r u → va_P D vwCl (fl [wo, wf, Wm u]) H1 → va_D A (fl [wo, wf, Wm u]) → va_S A s.heap H1 locs1 → W p l e R s m args below meth c H1 locs1 cells slots Q (F0 m (pc + 3) ls (.int r :: rest))) : W p l e R s m args below meth c H locs cells slots Q (F0 m pc ls st0) := by
  have hA : ∀ q, adr wm q → A q := adr_fl (wc := [wm]) hD [2] rfl rfl
  refine va_calli hr hS (fun q _ h => hA q h) hA (fun r u t H1 locs1 ht hvm hp hB hz hk hS1 => ?_)
  rw [ht] at hB
  obtain ⟨h1, h2⟩ := blk (wc := [wm]) (w1 := [Wm u]) hP hD [2] rfl rfl (by simp only [bad, List.map_cons, List.map_nil, hw u]) hk hB
  exact kk r u H1 locs1 hp h1 h2 hS1
theorem k_modl {S : Type} {post : Int64 → S → Prop} {Wm : S → va_W} (hr : va_Run p l e R s m args below meth c H locs cells slots 0 0 (F0 m pc ls st0) rest (va_Ql post (fun u t => va_P D vwCl (Wm u) t.heap) (adr wm) a) (adr wm))
    (hP : va_P D vwCl (fl [wo, wf, wm]) H) (hD : va_D A (fl [wo, wf, wm])) (hS : va_S A s.heap H locs) (hw : ∀ u, (Wm u).map (fun c => c.1) = wm.map (fun c => c.1))
    (kk : ∀ (r : Int64) (u : S) (H1 : Heap) (locs1 : List Loc), post r u → va_P D vwCl (fl [wo, wf, Wm u]) H1 → va_D A (fl [wo, wf, Wm u]) → va_S A s.heap H1 locs1 → W p l e R s m args below meth c H1 locs1 cells slots Q (F0 m (pc + 3) ls (.long r :: rest))) : W p l e R s m args below meth c H locs cells slots Q (F0 m pc ls st0) := by
  have hA : ∀ q, adr wm q → A q := adr_fl (wc := [wm]) hD [2] rfl rfl
  refine va_calll hr hS (fun q _ h => hA q h) hA (fun r u t H1 locs1 ht hvm hp hB hz hk hS1 => ?_)
  rw [ht] at hB
  obtain ⟨h1, h2⟩ := blk (wc := [wm]) (w1 := [Wm u]) hP hD [2] rfl rfl (by simp only [bad, List.map_cons, List.map_nil, hw u]) hk hB
  exact kk r u H1 locs1 hp h1 h2 hS1
theorem k_modd {S : Type} {post : UInt64 → S → Prop} {Wm : S → va_W} (hr : va_Run p l e R s m args below meth c H locs cells slots 0 0 (F0 m pc ls st0) rest (va_Qd post (fun u t => va_P D vwCl (Wm u) t.heap) (adr wm) a) (adr wm))
    (hP : va_P D vwCl (fl [wo, wf, wm]) H) (hD : va_D A (fl [wo, wf, wm])) (hS : va_S A s.heap H locs) (hw : ∀ u, (Wm u).map (fun c => c.1) = wm.map (fun c => c.1))
    (kk : ∀ (r : UInt64) (u : S) (H1 : Heap) (locs1 : List Loc), post r u → va_P D vwCl (fl [wo, wf, Wm u]) H1 → va_D A (fl [wo, wf, Wm u]) → va_S A s.heap H1 locs1 → W p l e R s m args below meth c H1 locs1 cells slots Q (F0 m (pc + 3) ls (.double r :: rest))) : W p l e R s m args below meth c H locs cells slots Q (F0 m pc ls st0) := by
  have hA : ∀ q, adr wm q → A q := adr_fl (wc := [wm]) hD [2] rfl rfl
  refine va_calld hr hS (fun q _ h => hA q h) hA (fun r u t H1 locs1 ht hvm hp hB hz hk hS1 => ?_)
  rw [ht] at hB
  obtain ⟨h1, h2⟩ := blk (wc := [wm]) (w1 := [Wm u]) hP hD [2] rfl rfl (by simp only [bad, List.map_cons, List.map_nil, hw u]) hk hB
  exact kk r u H1 locs1 hp h1 h2 hS1
/-- a call of the class, straight: on the second of three blocks -/
theorem k_clsi {S : Type} {post : Int32 → S → Prop} {Wf : S → va_W} (hr : va_Run p l e R s m args below meth c H locs cells slots 0 0 (F0 m pc ls st0) rest (va_Qi post (fun u t => va_P D vwCl (Wf u) t.heap) (adr wf) a) (adr wf))
    (hP : va_P D vwCl (fl [wo, wf, wm]) H) (hD : va_D A (fl [wo, wf, wm])) (hS : va_S A s.heap H locs) (hw : ∀ u, (Wf u).map (fun c => c.1) = wf.map (fun c => c.1))
    (kk : ∀ (r : Int32) (u : S) (H1 : Heap) (locs1 : List Loc), post r u → va_P D vwCl (fl [wo, Wf u, wm]) H1 → va_D A (fl [wo, Wf u, wm]) → va_S A s.heap H1 locs1 → W p l e R s m args below meth c H1 locs1 cells slots Q (F0 m (pc + 3) ls (.int r :: rest))) : W p l e R s m args below meth c H locs cells slots Q (F0 m pc ls st0) := by
  have hA : ∀ q, adr wf q → A q := adr_fl (wc := [wf]) hD [1] rfl rfl
  refine va_calli hr hS (fun q _ h => hA q h) hA (fun r u t H1 locs1 ht hvm hp hB hz hk hS1 => ?_)
  rw [ht] at hB
  obtain ⟨h1, h2⟩ := blk (wc := [wf]) (w1 := [Wf u]) hP hD [1] rfl rfl (by simp only [bad, List.map_cons, List.map_nil, hw u]) hk hB
  exact kk r u H1 locs1 hp h1 h2 hS1
theorem k_clsl {S : Type} {post : Int64 → S → Prop} {Wf : S → va_W} (hr : va_Run p l e R s m args below meth c H locs cells slots 0 0 (F0 m pc ls st0) rest (va_Ql post (fun u t => va_P D vwCl (Wf u) t.heap) (adr wf) a) (adr wf))
    (hP : va_P D vwCl (fl [wo, wf, wm]) H) (hD : va_D A (fl [wo, wf, wm])) (hS : va_S A s.heap H locs) (hw : ∀ u, (Wf u).map (fun c => c.1) = wf.map (fun c => c.1))
    (kk : ∀ (r : Int64) (u : S) (H1 : Heap) (locs1 : List Loc), post r u → va_P D vwCl (fl [wo, Wf u, wm]) H1 → va_D A (fl [wo, Wf u, wm]) → va_S A s.heap H1 locs1 → W p l e R s m args below meth c H1 locs1 cells slots Q (F0 m (pc + 3) ls (.long r :: rest))) : W p l e R s m args below meth c H locs cells slots Q (F0 m pc ls st0) := by
  have hA : ∀ q, adr wf q → A q := adr_fl (wc := [wf]) hD [1] rfl rfl
  refine va_calll hr hS (fun q _ h => hA q h) hA (fun r u t H1 locs1 ht hvm hp hB hz hk hS1 => ?_)
  rw [ht] at hB
  obtain ⟨h1, h2⟩ := blk (wc := [wf]) (w1 := [Wf u]) hP hD [1] rfl rfl (by simp only [bad, List.map_cons, List.map_nil, hw u]) hk hB
  exact kk r u H1 locs1 hp h1 h2 hS1
end LR
theorem cmp_same (y : Int64) : lg_cmp y y = 0 := by
  unfold lg_cmp
  simp
section LT
variable {p : Program} {l : Launch} {e : Env} {s : State} {m : MethodId} {below : List Frame} {meth : Method} {c : Code} {H : Heap} {locs : List Loc} {cells slots : Nat} {Q : State → Prop}
variable {pc : Nat} {ls : Array Slot} {A : Nat → Prop} {wf : va_W} {b L : Nat} {xs : Nat → Int32} {dC : Nat → ClassId} {dI : Nat → Nat → Nat} {cI cP cL : ClassId} {qL qG qo o q0 q1 : Nat} {fo : Nat → Int64} {F x M : Nat → Int32} {h : Int64} {k9 b9 : Int32} {i a0 : Nat}
/-- behind a call of both sides: the places of what they throw are one, and where nothing is thrown the answers are -/
theorem law_tail (C : LBd p s m c b L xs A dC dI cI cP cL qL qG) (hP : va_P (dC, dI) vwCl (fl [outW cL qo fo, wf, mW cI o q0 q1 F x M h]) H) (hS : va_S A s.heap H locs) (hl : lv_has ls 9 [(6, .int b9), (5, .int k9), (0, .ref b), (1, .ref a0), (2, .ref o), (3, .ref qo), (4, .int (nI i))]) (ht : M 0 = k9) (hv : k9 = 0 → fo 0 = b9.toInt64) (hcs : cells ≤ 601024) (hss : slots ≤ 7293034)
    (d0 : decode cL_law pc = .ok (.aload_n 2, 1)) (d1 : decode cL_law (pc + 1) = .ok (.invokevirtual 104, 3)) (d4 : decode cL_law (pc + 4) = .ok (.iload 5, 2)) (d6 : decode cL_law (pc + 6) = .ok (.if_icmp .eq 5, 3)) (d11 : decode cL_law (pc + 11) = .ok (.iload 5, 2)) (d13 : decode cL_law (pc + 13) = .ok (.ifCond .ne 15, 3)) (d16 : decode cL_law (pc + 16) = .ok (.aload_n 3, 1)) (d17 : decode cL_law (pc + 17) = .ok (.iconst 0, 1)) (d18 : decode cL_law (pc + 18) = .ok (.laload, 1)) (d19 : decode cL_law (pc + 19) = .ok (.iload 6, 2)) (d21 : decode cL_law (pc + 21) = .ok (.i2l, 1)) (d22 : decode cL_law (pc + 22) = .ok (.lcmp, 1)) (d23 : decode cL_law (pc + 23) = .ok (.ifCond .eq 5, 3)) {off : Int} (d28 : decode cL_law (pc + 28) = .ok (.goto off, 3)) (hoff : ((pc + 28 : Nat) : Int) + off = 1851)
    (kk : ∀ ls' : Array Slot, lv_has ls' 9 [(0, .ref b), (1, .ref a0), (2, .ref o), (3, .ref qo), (4, .int (nI i))] → W p l e room_1 s m #[Value.ref b] below meth c H locs cells slots Q (F0 m 1851 ls' [])) : W p l e room_1 s m #[Value.ref b] below meth c H locs cells slots Q (F0 m pc ls []) := by
  obtain ⟨hx, hb, hml, hown, hts, hX, hbl, hbA, hA, hK, hn, hXo, hN, hT⟩ := C
  have kend : W p l e room_1 s m #[Value.ref b] below meth c H locs cells slots Q (F0 m (pc + 28) ls []) := lv_goto (tgt := 1851) hx hb d28 hoff (kk ls (lv_sub hl [2, 3, 4, 5, 6] rfl))
  refine lv_aload_n hx hb d0 rfl (lv_at hl 4 rfl) ?_
  refine k_calli (W.runV (As := []) (rest := []) ⟨hx, hb, hml, hown, hts⟩ (mX7_thrown l dC dI cI o q0 q1 F x M h) (cwV 0 hts (gi_V u_894 u_895 u_896 u_7 u_897) rfl rfl rfl (by decide +kernel) ⟨Nat.le_of_ble_eq_true rfl, Nat.le_of_ble_eq_true rfl⟩) (pcR_V (ci := 5) (q0 := 0) (fl_at hP 2 rfl) (hK.sub (tys' := [(cI, .int)]) [0] rfl) hn rfl rfl) rfl rfl hl.1 rfl (lv_room (Nat.le_of_ble_eq_true rfl)) d1 ⟨hcs, hss⟩) ?_
  refine lv_iload hx hb d4 (lv_at hl 1 rfl) ?_
  refine lv_icmp_eq (tgt := pc + 11) hx hb d6 (by omega) (fun _ => ?_) (fun z => absurd ht z)
  refine lv_iload hx hb d11 (lv_at hl 1 rfl) ?_
  refine lv_if_ne (tgt := pc + 28) hx hb d13 (by omega) (fun _ => kend) (fun hk0 => ?_)
  refine lv_aload_n hx hb d16 rfl (lv_at hl 5 rfl) ?_
  refine lv_iconst (v := 0) hx hb d17 (by decide) ?_
  refine va_lald hx hb hK hP 0 2 rfl rfl (vp_in_nI (n := 0) (by decide) (by decide)) d18 ?_
  refine lv_iload hx hb d19 (lv_at hl 0 rfl) ?_
  refine lv_i2l (v := b9.toInt64) hx hb d21 rfl ?_
  refine W.lcmp hx hb d22 ?_
  rw [show (0 : Int32).toNatClampNeg = 0 from rfl, hv hk0, cmp_same]
  exact lv_if_eq (tgt := pc + 28) hx hb d23 (by omega) (fun _ => kend) (fun z => absurd rfl z)
end LT
