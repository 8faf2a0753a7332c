/-! the history, by blocks: the ring's two cells, six plans. Mine. -/
section KB
variable {p : Program} {l : Launch} {e : Env} {R : Room} {s : State} {m : MethodId} {args : Array Value} {below : List Frame} {meth : Method} {c : Code} {H : Heap} {locs : List Loc} {cells slots : Nat} {Q : State → Prop}
variable {pc : Nat} {ls : Array Slot} {rest st0 : List Value} {a : Array Value} {A : Nat → Prop} {H0 : Heap} {D : va_G} {Bs wc : List va_W}
theorem k_bmutv {S : Type} {post : S → Prop} {W1 : S → List va_W} (hr : va_Run p l e R s m args below meth c H locs cells slots 0 0 (F0 m pc ls st0) rest (va_Qv post (fun u t => va_P D vwCl (fl (W1 u)) t.heap) (adr (fl wc)) a) (adr (fl wc)))
    (hP : va_P D vwCl (fl Bs) H) (hD : va_D A (fl Bs)) (hS : va_S A H0 H locs) (is : List Nat) (hn : va_nd is = true) (hC : is.map (fun i => Bs[i]?) = wc.map some) (hw : ∀ u, bad (W1 u) = bad wc)
    (kk : ∀ (u : S) (H1 : Heap) (locs1 : List Loc), post u → va_P D vwCl (fl (bplug Bs is (W1 u))) H1 → va_D A (fl (bplug Bs is (W1 u))) → va_S A H0 H1 locs1 → W p l e R s m args below meth c H1 locs1 cells slots Q (F0 m (pc + 3) ls rest)) : W p l e R s m args below meth c H locs cells slots Q (F0 m pc ls st0) := by
  have hA := adr_fl hD is hn hC
  refine va_callv hr hS (fun q _ h => hA q h) hA (fun u t H1 locs1 ht hvm hp hB hz hk hS1 => ?_)
  rw [ht] at hB
  obtain ⟨h1, h2⟩ := blk hP hD is hn hC (hw u) hk hB
  exact kk u H1 locs1 hp h1 h2 hS1
theorem k_bmuti {S : Type} {post : Int32 → S → Prop} {W1 : S → List va_W} (hr : va_Run p l e R s m args below meth c H locs cells slots 0 0 (F0 m pc ls st0) rest (va_Qi post (fun u t => va_P D vwCl (fl (W1 u)) t.heap) (adr (fl wc)) a) (adr (fl wc)))
    (hP : va_P D vwCl (fl Bs) H) (hD : va_D A (fl Bs)) (hS : va_S A H0 H locs) (is : List Nat) (hn : va_nd is = true) (hC : is.map (fun i => Bs[i]?) = wc.map some) (hw : ∀ u, bad (W1 u) = bad wc)
    (kk : ∀ (r : Int32) (u : S) (H1 : Heap) (locs1 : List Loc), post r u → va_P D vwCl (fl (bplug Bs is (W1 u))) H1 → va_D A (fl (bplug Bs is (W1 u))) → va_S A H0 H1 locs1 → W p l e R s m args below meth c H1 locs1 cells slots Q (F0 m (pc + 3) ls (.int r :: rest))) : W p l e R s m args below meth c H locs cells slots Q (F0 m pc ls st0) := by
  have hA := adr_fl hD is hn hC
  refine va_calli hr hS (fun q _ h => hA q h) hA (fun r u t H1 locs1 ht hvm hp hB hz hk hS1 => ?_)
  rw [ht] at hB
  obtain ⟨h1, h2⟩ := blk hP hD is hn hC (hw u) hk hB
  exact kk r u H1 locs1 hp h1 h2 hS1
/-- some cells of one block -/
theorem k_smutv {S : Type} {post : S → Prop} {wb wk : va_W} {Wd : S → va_W} (hr : va_Run p l e R s m args below meth c H locs cells slots 0 0 (F0 m pc ls st0) rest (va_Qv post (fun u t => va_P D vwCl (Wd u) t.heap) (adr wk) a) (adr wk))
    (hP : va_P D vwCl (fl Bs) H) (hD : va_D A (fl Bs)) (hS : va_S A H0 H locs) (j : Nat) (hb : Bs[j]? = some wb) (is : List Nat) (hn : va_nd is = true) (hC : is.map (fun i => wb[i]?) = wk.map some) (hw : ∀ u, (Wd u).map (fun c => c.1) = wk.map (fun c => c.1))
    (kk : ∀ (u : S) (H1 : Heap) (locs1 : List Loc), post u → va_P D vwCl (fl (Bs.set j (plug wb is (Wd u)))) H1 → va_D A (fl (Bs.set j (plug wb is (Wd u)))) → va_S A H0 H1 locs1 → W p l e R s m args below meth c H1 locs1 cells slots Q (F0 m (pc + 3) ls rest)) : W p l e R s m args below meth c H locs cells slots Q (F0 m pc ls st0) := by
  have hA : ∀ q, adr wk q → A q := adr_in (fl_D1 hD j hb) is hC
  refine va_callv hr hS (fun q _ h => hA q h) hA (fun u t H1 locs1 ht hvm hp hB hz hk hS1 => ?_)
  rw [ht] at hB
  obtain ⟨h1, h2⟩ := blk1 hP hD j hb is hn hC (hw u) hk hB
  exact kk u H1 locs1 hp h1 h2 hS1
end KB
/-- the ring's two cells -/
def rW (cP : ClassId) (h0 h1 : Nat) (pa : Nat → Nat → Nat) (o v : Int32) : va_W := [(h0, .inr (0, [.ref h1, .int o, .int v])), (h1, .inl (cP, 6, .inr (.inr (.inr (.inr (fun k => some (pa k 0)))))))]
/-- the history's blocks, and what follows them -/
def hB (cI cP : ClassId) (h0 h1 : Nat) (pa : Nat → Nat → Nat) (Ps : Nat → PV) (o v : Int32) (t : List va_W) : List va_W :=
  rW cP h0 h1 pa o v :: pW cI (pa 0) (Ps 0) :: pW cI (pa 1) (Ps 1) :: pW cI (pa 2) (Ps 2) :: pW cI (pa 3) (Ps 3) :: pW cI (pa 4) (Ps 4) :: pW cI (pa 5) (Ps 5) :: t
def hW (cI cP : ClassId) (h0 h1 : Nat) (pa : Nat → Nat → Nat) (Ps : Nat → PV) (o v : Int32) : va_W := fl (hB cI cP h0 h1 pa Ps o v [])
theorem hW_nest (cI cP : ClassId) (h0 h1 : Nat) (pa : Nat → Nat → Nat) (Ps : Nat → PV) (o v : Int32) (b : va_W) : fl [hW cI cP h0 h1 pa Ps o v, b] = fl (hB cI cP h0 h1 pa Ps o v [b]) := by
  unfold hW
  rw [fl_eq [_, _], fl_eq (hB cI cP h0 h1 pa Ps o v [b]), fl_eq (hB cI cP h0 h1 pa Ps o v [])]
  simp only [hB, List.flatten_cons, List.flatten_nil, List.append_nil, List.append_assoc]
section HB
variable {cI cP : ClassId} {h0 h1 : Nat} {pa : Nat → Nat → Nat} {Ps : Nat → PV} {o v : Int32} {b : va_W}
theorem hB_get {i : Nat} (hi : i < 6) (t : List va_W) : (hB cI cP h0 h1 pa Ps o v t)[1 + i]? = some (pW cI (pa i) (Ps i)) := by
  rcases (show i = 0 ∨ i = 1 ∨ i = 2 ∨ i = 3 ∨ i = 4 ∨ i = 5 by omega) with rfl | rfl | rfl | rfl | rfl | rfl <;> rfl
theorem hB_set {i : Nat} (hi : i < 6) (U : PV) : bplug (hB cI cP h0 h1 pa Ps o v [b]) [1 + i, 7] [pW cI (pa i) U, b] = hB cI cP h0 h1 pa (va_up Ps i U) o v [b] := by
  rcases (show i = 0 ∨ i = 1 ∨ i = 2 ∨ i = 3 ∨ i = 4 ∨ i = 5 by omega) with rfl | rfl | rfl | rfl | rfl | rfl <;> rfl
theorem hB_last {i : Nat} (hi : i < 6) (b' : va_W) : bplug (hB cI cP h0 h1 pa Ps o v [b]) [7, 1 + i] [b', pW cI (pa i) (Ps i)] = hB cI cP h0 h1 pa Ps o v [b'] := by
  rcases (show i = 0 ∨ i = 1 ∨ i = 2 ∨ i = 3 ∨ i = 4 ∨ i = 5 by omega) with rfl | rfl | rfl | rfl | rfl | rfl <;> rfl
end HB

abbrev rmX0_planAt : Room := { frames := 0, cells := 0, slots := 0, locals := 0 }
set_option maxHeartbeats 4000000 in
set_option maxRecDepth 100000 in
theorem mX0_planAt (l : Launch) (dC : Nat → ClassId) (dI : Nat → Nat → Nat) (cI cP : ClassId) (h0 h1 : Nat) (pa : Nat → Nat → Nat) (o v : Int32) (j : Nat) (hj : j < 2 ^ 31) : Met l yX0_planAt (ws_ yX0_planAt cX0_planAt 3 (some (.object "SupperSeats$Plan"))) rmX0_planAt (pcR (dC, dI) [(cI, .int), (cP, .object "SupperSeats$Plan")] (rW cP h0 h1 pa o v) [.ref h0, .int (nI j)]) (va_Sr (fun k => k = j % 6) (fun k => .ref (pa k 0))) 0 0 (fun _ => False) := by
  refine Met.ofW (cc := cX0_planAt) (maxL := 3) (ret := some (.object "SupperSeats$Plan")) (by decide) rfl ?_
  intro p e s m args below meth c s₁ B hml hv
  obtain ⟨ha, hP, hK, hn⟩ := hv
  have hx := B.exec
  have hb := B.bytes
  have hr := B.returns
  have hts0 := atoms_spec (ws := ws_ yX0_planAt cX0_planAt 3 (some (.object "SupperSeats$Plan"))) B.pre
  have hts : ∀ w ∈ lw_all, w.before args s = true := fun w h => hts0 w (List.mem_cons_of_mem _ h)
  have hown : s.vm.findClass RX0 = some m.cls := findClass_of_methodNamed B.named
  have hlocks := B.notSynchronized
  have htX0 : ∀ w ∈ wsX00, w.before args s = true := fun w h => hts w (wX0 w h)
  have hl := lv_entry ([.ref h0, .int (nI j)]) (n := 3) (Nat.le_of_ble_eq_true rfl)
  rw [ha, lg_entry_eq, ← ha]
  generalize (lg_sl ([.ref h0, .int (nI j)]) ++ List.replicate (3 - (lg_sl ([.ref h0, .int (nI j)])).length) Slot.unset).toArray = ls at hl ⊢
  have hl : lv_has ls 3 [(0, .ref h0), (1, .int (nI j))] := hl
  have hj6 : j % 6 < 6 := Nat.mod_lt _ (by decide)
  refine lv_iload_n hx hb dX0_planAt_0 rfl (lv_at hl 1 rfl) ?_
  refine lv_bipush (v := 6) hx hb dX0_planAt_1 (by decide) ?_
  refine lv_irem hx hb dX0_planAt_3 (by decide) ?_
  refine lv_tope (y := nI (j % 6)) (pk_rem (a := j) (d := 6) (by omega) (by decide) (by decide)) ?_
  refine lv_istore_n (lv' := [(2, .int (nI (j % 6))), (0, .ref h0), (1, .int (nI j))]) hx hb dX0_planAt_4 rfl hl (by decide) rfl (fun ls hl => ?_)
  refine lv_iload_n hx hb dX0_planAt_5 rfl (lv_at hl 0 rfl) ?_
  refine lv_if_lt (tgt := 27) hx hb dX0_planAt_6 (by decide) (fun c1 => ?_) (fun c1 => ?_)
  · exact absurd c1 (nI_pos (by omega))
  refine lv_iload_n hx hb dX0_planAt_9 rfl (lv_at hl 0 rfl) ?_
  refine lv_aload_n hx hb dX0_planAt_10 rfl (lv_at hl 1 rfl) ?_
  refine va_get (D := (dC, dI)) (ci := 0) (v := .ref h1) (C := RX0) (T := TX0) (N := 3) hx hb htX0 (fun _ h => h) hown hK hP 0 rfl rfl 0 (by decide) (hts _ u_119) (fun _ h9 => h9) rfl dX0_planAt_11 ?_
  refine va_alen (v := nI 6) hx hb hK hP 1 1 rfl rfl rfl dX0_planAt_14 ?_
  refine lv_icmp_ge (tgt := 27) hx hb dX0_planAt_15 (by decide) (fun c2 => ?_) (fun c2 => ?_)
  · exact absurd ((nI_leI (by decide) (by omega)).mp c2) (by omega)
  refine lv_aload_n hx hb dX0_planAt_18 rfl (lv_at hl 1 rfl) ?_
  refine va_get (D := (dC, dI)) (ci := 0) (v := .ref h1) (C := RX0) (T := TX0) (N := 3) hx hb htX0 (fun _ h => h) hown hK hP 0 rfl rfl 0 (by decide) (hts _ u_119) (fun _ h9 => h9) rfl dX0_planAt_19 ?_
  refine lv_iload_n hx hb dX0_planAt_22 rfl (lv_at hl 0 rfl) ?_
  refine va_aldq hx hb hK hP 1 1 rfl rfl (vp_in_nI (n := j % 6) (by omega) (by decide)) dX0_planAt_23 ?_
  rw [nI_clamp (by omega)]
  refine lv_goto (tgt := 28) hx hb dX0_planAt_24 (by decide) ?_
  exact W.aret (v := .ref (pa (j % 6) 0)) hx hb hr (Or.inl ⟨_, rfl⟩) (Or.inr ⟨_, rfl⟩) (fun t ht hW => ⟨j % 6, rfl, rfl, ht⟩) (fun q hq => absurd hq List.not_mem_nil) dX0_planAt_28

def fX0_save (Ps : Nat → PV) (o : Nat) (v : Nat) (P : PV) : (Nat → PV) × Nat × Nat := (va_up Ps ((o + v) % 6) (fX2_copyFrom (Ps ((o + v) % 6)) P), if v < 6 then (o, v + 1) else ((o + 1) % 6, v))
abbrev rmX0_save : Room := { frames := 3, cells := 0, slots := 0, locals := 82 }
theorem save_v {v : Nat} (h : v ≤ 6) : (6 ≤ nI v) ↔ ¬ v < 6 := by
  rw [show (6 : Int32) = nI 6 from rfl, nI_leI (by decide) (by omega)]
  omega
set_option maxHeartbeats 4000000 in
set_option maxRecDepth 100000 in
theorem mX0_save0 (l : Launch) (dC : Nat → ClassId) (dI : Nat → Nat → Nat) (cI cP : ClassId) (h0 h1 : Nat) (pa : Nat → Nat → Nat) (Ps : Nat → PV) (o v : Nat) (ad : Nat → Nat) (P : PV) (ho : o < 6) (hv6 : v ≤ 6) : Met l yX0_save (ws_ yX0_save cX0_save 3 none) rmX0_save (pcM (dC, dI) [(cI, .int), (cP, .object "SupperSeats$Plan")] (fl (hB cI cP h0 h1 pa Ps (nI o) (nI v) [pW cI ad P])) [.ref h0, .ref (ad 0)]) (va_Qv (fun (u9 : (Nat → PV) × Nat × Nat) => u9 = fX0_save Ps o v P) (fun u9 t => va_P (dC, dI) vwCl ((fun (v : (Nat → PV) × Nat × Nat) => fl (hB cI cP h0 h1 pa v.1 (nI v.2.1) (nI v.2.2) [pW cI ad P])) u9) t.heap) (adr (fl (hB cI cP h0 h1 pa Ps (nI o) (nI v) [pW cI ad P])))) 0 0 (adr (fl (hB cI cP h0 h1 pa Ps (nI o) (nI v) [pW cI ad P]))) := by
  refine Met.ofW (cc := cX0_save) (maxL := 3) (ret := none) (by decide) rfl ?_
  intro p e s m args below meth c s₁ B hml hv
  obtain ⟨ha, hP, hK, hn, hD0⟩ := hv
  have hx := B.exec
  have hb := B.bytes
  have hr := B.returns
  have hts0 := atoms_spec (ws := (ws_ yX0_save cX0_save 3 none)) B.pre
  have hts : ∀ w ∈ lw_all, w.before args s = true := fun w h => hts0 w (List.mem_cons_of_mem _ h)
  have hown : s.vm.findClass RX0 = some m.cls := findClass_of_methodNamed B.named
  have hlocks := B.notSynchronized
  have htX0 : ∀ w ∈ wsX00, w.before args s = true := fun w h => hts w (wX0 w h)
  have hD := adr_self hD0
  obtain ⟨A, hA⟩ : ∃ A, A = adr (fl (hB cI cP h0 h1 pa Ps (nI o) (nI v) [pW cI ad P])) := ⟨_, rfl⟩
  rw [← hA] at hD
  have hS : va_S A s.heap s.heap [] := va_S.rf
  obtain ⟨Q, hQ⟩ : ∃ Q, Q = MQ below (va_Qv (fun (u9 : (Nat → PV) × Nat × Nat) => u9 = fX0_save Ps o v P) (fun u9 t => va_P (dC, dI) vwCl ((fun (v : (Nat → PV) × Nat × Nat) => fl (hB cI cP h0 h1 pa v.1 (nI v.2.1) (nI v.2.2) [pW cI ad P])) u9) t.heap) (adr (fl (hB cI cP h0 h1 pa Ps (nI o) (nI v) [pW cI ad P])))) args s 0 0 (adr (fl (hB cI cP h0 h1 pa Ps (nI o) (nI v) [pW cI ad P]))) := ⟨_, rfl⟩
  rw [← hQ]
  rw [← hA] at hQ
  have hl := lv_entry ([.ref h0, .ref (ad 0)]) (n := 3) (Nat.le_of_ble_eq_true rfl)
  rw [ha, lg_entry_eq, ← ha]
  generalize (lg_sl ([.ref h0, .ref (ad 0)]) ++ List.replicate (3 - (lg_sl ([.ref h0, .ref (ad 0)])).length) Slot.unset).toArray = ls at hl ⊢
  have hl : lv_has ls 3 [(0, .ref h0), (1, .ref (ad 0))] := hl
  show W p l e rmX0_save s m args below meth c s.heap [] 0 0 Q (F0 m 0 ls [])
  obtain ⟨j, hj⟩ : ∃ j, j = (o + v) % 6 := ⟨_, rfl⟩
  have hj6 : j < 6 := by rw [hj]; exact Nat.mod_lt _ (by decide)
  refine lv_aload_n hx hb dX0_save_0 rfl (lv_at hl 0 rfl) ?_
  refine lv_aload_n hx hb dX0_save_1 rfl (lv_at hl 0 rfl) ?_
  refine va_get (D := (dC, dI)) (ci := 0) (v := .int (nI o)) (C := RX0) (T := TX0) (N := 3) hx hb htX0 (fun _ h => h) hown hK (fl_at hP 0 rfl) 0 rfl rfl 1 (by decide) (hts _ u_120) (fun _ h9 => h9) rfl dX0_save_2 ?_
  refine lv_aload_n hx hb dX0_save_5 rfl (lv_at hl 0 rfl) ?_
  refine va_get (D := (dC, dI)) (ci := 0) (v := .int (nI v)) (C := RX0) (T := TX0) (N := 3) hx hb htX0 (fun _ h => h) hown hK (fl_at hP 0 rfl) 0 rfl rfl 2 (by decide) (hts _ u_121) (fun _ h9 => h9) rfl dX0_save_6 ?_
  refine lv_iadd hx hb dX0_save_9 ?_
  refine lv_tope (y := (nI (o + v))) (nI_add o v) ?_
  refine va_csr (W.runV (As := [.int (nI (o + v))]) (rest := []) ⟨hx, hb, hml, hown, hts0⟩ (mX0_planAt l dC dI cI cP h0 h1 pa (nI o) (nI v) (o + v) (by omega)) (cwV 1 hts0 (gi_V u_240 u_242 us_1 u_5 u_243) rfl rfl rfl (by decide +kernel) ⟨Nat.le_of_ble_eq_true rfl, Nat.le_of_ble_eq_true rfl⟩) (pcR_V (ci := 0) (q0 := 0) (fl_at hP 0 rfl) hK hn rfl rfl) rfl rfl hl.1 rfl (lv_room (Nat.le_of_ble_eq_true rfl)) dX0_save_10 ⟨Nat.zero_le _, Nat.zero_le _⟩) (fun k9 hk9 => ?_)
  rw [← hj] at hk9
  subst hk9
  refine lv_astore_n (lv' := [(2, .ref (pa k9 0)), (0, .ref h0), (1, .ref (ad 0))]) hx hb dX0_save_13 rfl hl (by decide) rfl (fun ls hl => ?_)
  refine lv_aload_n hx hb dX0_save_14 rfl (lv_at hl 0 rfl) ?_
  refine lv_ifnull hx hb dX0_save_15 ?_
  refine lv_aload_n hx hb dX0_save_18 rfl (lv_at hl 0 rfl) ?_
  refine lv_aload_n hx hb dX0_save_19 rfl (lv_at hl 2 rfl) ?_
  refine k_bmutv (Bs := hB cI cP h0 h1 pa Ps (nI o) (nI v) [pW cI ad P]) (wc := [pW cI (pa k9) (Ps k9), pW cI ad P]) (W1 := fun (v : PV) => [pW cI (pa k9) v, pW cI ad P]) (va_runV (As := [.ref (ad 0)]) (rest := []) ⟨hx, hb, hml, hown, hts0⟩ (mX2_copyFrom l dC dI cI (pa k9) (Ps k9) ad P) (cwV 1 hts0 (gi_V u_244 u_245 u_246 u_2 u_247) rfl rfl rfl (by decide +kernel) ⟨Nat.le_of_ble_eq_true rfl, Nat.le_of_ble_eq_true rfl⟩) (pcM_V (ci := 2) (q0 := 0) (fl_sub (wc := [pW cI (pa k9) (Ps k9), pW cI ad P]) hP [1 + k9, 7] (by rw [List.map_cons, hB_get hj6]; rfl)) (hK.sub (tys' := [(cI, .int)]) [0] rfl) hn (fl_D (wc := [pW cI (pa k9) (Ps k9), pW cI ad P]) hD [1 + k9, 7] (by simp [va_nd]; omega) (by rw [List.map_cons, hB_get hj6]; rfl)) rfl rfl) rfl rfl hl.1 rfl (lv_room (Nat.le_of_ble_eq_true rfl)) dX0_save_20 ⟨Nat.zero_le _, Nat.zero_le _⟩) hP hD hS [1 + k9, 7] (by simp [va_nd]; omega) (by rw [List.map_cons, hB_get hj6]; rfl) (fun _ => rfl) (fun U20 H locs hU20 hP hD hS => ?_)
  rw [hB_set hj6] at hP hD
  have hF : fX0_save Ps o v P = (va_up Ps k9 U20, if v < 6 then (o, v + 1) else ((o + 1) % 6, v)) := by
    unfold fX0_save
    rw [← hj, hU20]
  refine lv_aload_n hx hb dX0_save_23 rfl (lv_at hl 1 rfl) ?_
  refine va_get (D := (dC, dI)) (ci := 0) (v := .int (nI v)) (C := RX0) (T := TX0) (N := 3) hx hb htX0 (fun _ h => h) hown hK (fl_at hP 0 rfl) 0 rfl rfl 2 (by decide) (hts _ u_121) (fun _ h9 => h9) rfl dX0_save_24 ?_
  refine lv_bipush (v := 6) hx hb dX0_save_27 (by decide) ?_
  refine lv_icmp_ge (tgt := 45) hx hb dX0_save_29 (by decide) (fun c_29 => ?_) (fun c_29 => ?_)
  · rw [if_neg ((save_v hv6).mp c_29)] at hF
    refine lv_aload_n hx hb dX0_save_45 rfl (lv_at hl 1 rfl) ?_
    refine lv_aload_n hx hb dX0_save_46 rfl (lv_at hl 1 rfl) ?_
    refine va_get (D := (dC, dI)) (ci := 0) (v := .int (nI o)) (C := RX0) (T := TX0) (N := 3) hx hb htX0 (fun _ h => h) hown hK (fl_at hP 0 rfl) 0 rfl rfl 1 (by decide) (hts _ u_120) (fun _ h9 => h9) rfl dX0_save_47 ?_
    refine lv_iconst (v := 1) hx hb dX0_save_50 (by decide) ?_
    refine lv_iadd hx hb dX0_save_51 ?_
    refine lv_tope (y := (nI (o + 1))) (nI_add o 1) ?_
    refine lv_bipush (v := 6) hx hb dX0_save_52 (by decide) ?_
    refine lv_irem hx hb dX0_save_54 (by decide) ?_
    refine lv_tope (y := (nI ((o + 1) % 6))) (pk_rem (a := (o + 1)) (d := 6) (by omega) (by decide) (by decide)) ?_
    refine va_put (D := (dC, dI)) (ci := 0) (v := .int (nI ((o + 1) % 6))) (ty := .int) (C := RX0) (T := TX0) (N := 3) hx hb htX0 (fun _ h => h) tyX0 tyX0_ok nmX0 hown hK hP hD hS 0 rfl rfl 1 (by decide) (hts _ u_120) (fun _ h9 => h9) rfl (by decide +kernel) rfl rfl (Nat.le_of_ble_eq_true rfl) dX0_save_55 (fun H locs hP hD hS => ?_)
    have hP : va_P (dC, dI) vwCl (fl (hB cI cP h0 h1 pa (va_up Ps k9 U20) (nI ((o + 1) % 6)) (nI v) [pW cI ad P])) H := hP
    have hD : va_D A (fl (hB cI cP h0 h1 pa (va_up Ps k9 U20) (nI ((o + 1) % 6)) (nI v) [pW cI ad P])) := hD
    rw [hQ]
    exact W.vret hx hb hr (fun t ht hW => ⟨⟨(va_up Ps k9 U20, ((o + 1) % 6), v), rfl, hF.symm, toH ht hP⟩, hS.F ht⟩) hS.2.2 dX0_save_58
  rw [if_pos (Decidable.not_not.mp (fun z => c_29 ((save_v hv6).mpr z)))] at hF
  refine lv_aload_n hx hb dX0_save_32 rfl (lv_at hl 1 rfl) ?_
  refine lv_dup hx hb dX0_save_33 rfl ?_
  refine va_get (D := (dC, dI)) (ci := 0) (v := .int (nI v)) (C := RX0) (T := TX0) (N := 3) hx hb htX0 (fun _ h => h) hown hK (fl_at hP 0 rfl) 0 rfl rfl 2 (by decide) (hts _ u_121) (fun _ h9 => h9) rfl dX0_save_34 ?_
  refine lv_iconst (v := 1) hx hb dX0_save_37 (by decide) ?_
  refine lv_iadd hx hb dX0_save_38 ?_
  refine lv_tope (y := (nI (v + 1))) (nI_add v 1) ?_
  refine va_put (D := (dC, dI)) (ci := 0) (v := .int (nI (v + 1))) (ty := .int) (C := RX0) (T := TX0) (N := 3) hx hb htX0 (fun _ h => h) tyX0 tyX0_ok nmX0 hown hK hP hD hS 0 rfl rfl 2 (by decide) (hts _ u_121) (fun _ h9 => h9) rfl (by decide +kernel) rfl rfl (Nat.le_of_ble_eq_true rfl) dX0_save_39 (fun H locs hP hD hS => ?_)
  have hP : va_P (dC, dI) vwCl (fl (hB cI cP h0 h1 pa (va_up Ps k9 U20) (nI o) (nI (v + 1)) [pW cI ad P])) H := hP
  have hD : va_D A (fl (hB cI cP h0 h1 pa (va_up Ps k9 U20) (nI o) (nI (v + 1)) [pW cI ad P])) := hD
  refine lv_goto (tgt := 58) hx hb dX0_save_42 (by decide) ?_
  rw [hQ]
  exact W.vret hx hb hr (fun t ht hW => ⟨⟨(va_up Ps k9 U20, o, (v + 1)), rfl, hF.symm, toH ht hP⟩, hS.F ht⟩) hS.2.2 dX0_save_58
def fX0_takeLatest (Ps : Nat → PV) (o : Nat) (v : Nat) (P : PV) : PV × Nat := if v = 0 then (P, v) else (fX2_copyFrom P (Ps ((o + (v - 1)) % 6)), v - 1)
abbrev rmX0_takeLatest : Room := { frames := 3, cells := 0, slots := 0, locals := 82 }
set_option maxHeartbeats 4000000 in
set_option maxRecDepth 100000 in
theorem mX0_takeLatest0 (l : Launch) (dC : Nat → ClassId) (dI : Nat → Nat → Nat) (cI cP : ClassId) (h0 h1 : Nat) (pa : Nat → Nat → Nat) (Ps : Nat → PV) (o v : Nat) (ad : Nat → Nat) (P : PV) (ho : o < 6) (hv6 : v ≤ 6) : Met l yX0_takeLatest (ws_ yX0_takeLatest cX0_takeLatest 3 none) rmX0_takeLatest (pcM (dC, dI) [(cI, .int), (cP, .object "SupperSeats$Plan")] (fl (hB cI cP h0 h1 pa Ps (nI o) (nI v) [pW cI ad P])) [.ref h0, .ref (ad 0)]) (va_Qv (fun (u9 : PV × Nat) => u9 = fX0_takeLatest Ps o v P) (fun u9 t => va_P (dC, dI) vwCl ((fun (z : PV × Nat) => fl (hB cI cP h0 h1 pa Ps (nI o) (nI z.2) [pW cI ad z.1])) u9) t.heap) (adr (fl (hB cI cP h0 h1 pa Ps (nI o) (nI v) [pW cI ad P])))) 0 0 (adr (fl (hB cI cP h0 h1 pa Ps (nI o) (nI v) [pW cI ad P]))) := by
  refine Met.ofW (cc := cX0_takeLatest) (maxL := 3) (ret := none) (by decide) rfl ?_
  intro p e s m args below meth c s₁ B hml hv
  obtain ⟨ha, hP, hK, hn, hD0⟩ := hv
  have hx := B.exec
  have hb := B.bytes
  have hr := B.returns
  have hts0 := atoms_spec (ws := (ws_ yX0_takeLatest cX0_takeLatest 3 none)) B.pre
  have hts : ∀ w ∈ lw_all, w.before args s = true := fun w h => hts0 w (List.mem_cons_of_mem _ h)
  have hown : s.vm.findClass RX0 = some m.cls := findClass_of_methodNamed B.named
  have hlocks := B.notSynchronized
  have htX0 : ∀ w ∈ wsX00, w.before args s = true := fun w h => hts w (wX0 w h)
  have hD := adr_self hD0
  obtain ⟨A, hA⟩ : ∃ A, A = adr (fl (hB cI cP h0 h1 pa Ps (nI o) (nI v) [pW cI ad P])) := ⟨_, rfl⟩
  rw [← hA] at hD
  have hS : va_S A s.heap s.heap [] := va_S.rf
  obtain ⟨Q, hQ⟩ : ∃ Q, Q = MQ below (va_Qv (fun (u9 : PV × Nat) => u9 = fX0_takeLatest Ps o v P) (fun u9 t => va_P (dC, dI) vwCl ((fun (z : PV × Nat) => fl (hB cI cP h0 h1 pa Ps (nI o) (nI z.2) [pW cI ad z.1])) u9) t.heap) (adr (fl (hB cI cP h0 h1 pa Ps (nI o) (nI v) [pW cI ad P])))) args s 0 0 (adr (fl (hB cI cP h0 h1 pa Ps (nI o) (nI v) [pW cI ad P]))) := ⟨_, rfl⟩
  rw [← hQ]
  rw [← hA] at hQ
  have hl := lv_entry ([.ref h0, .ref (ad 0)]) (n := 3) (Nat.le_of_ble_eq_true rfl)
  rw [ha, lg_entry_eq, ← ha]
  generalize (lg_sl ([.ref h0, .ref (ad 0)]) ++ List.replicate (3 - (lg_sl ([.ref h0, .ref (ad 0)])).length) Slot.unset).toArray = ls at hl ⊢
  have hl : lv_has ls 3 [(0, .ref h0), (1, .ref (ad 0))] := hl
  show W p l e rmX0_takeLatest s m args below meth c s.heap [] 0 0 Q (F0 m 0 ls [])
  refine lv_aload_n hx hb dX0_takeLatest_0 rfl (lv_at hl 0 rfl) ?_
  refine va_get (D := (dC, dI)) (ci := 0) (v := .int (nI v)) (C := RX0) (T := TX0) (N := 3) hx hb htX0 (fun _ h => h) hown hK (fl_at hP 0 rfl) 0 rfl rfl 2 (by decide) (hts _ u_121) (fun _ h9 => h9) rfl dX0_takeLatest_1 ?_
  refine lv_if_ne (tgt := 8) hx hb dX0_takeLatest_4 (by decide) (fun c_4 => ?_) (fun c_4 => ?_)
  rotate_left
  · have hv0 : v = 0 := (nI_eq (b := 0) (by omega) (by decide)).mp c_4
    have hF : fX0_takeLatest Ps o v P = (P, v) := if_pos hv0
    rw [hQ]
    exact W.vret hx hb hr (fun t ht hW => ⟨⟨(P, v), rfl, hF.symm, toH ht hP⟩, hS.F ht⟩) hS.2.2 dX0_takeLatest_7
  have hv0 : v ≠ 0 := fun z => c_4 (by rw [z]; rfl)
  obtain ⟨w, rfl⟩ : ∃ w, v = w + 1 := ⟨v - 1, by omega⟩
  obtain ⟨j, hj⟩ : ∃ j, j = (o + w) % 6 := ⟨_, rfl⟩
  have hj6 : j < 6 := by rw [hj]; exact Nat.mod_lt _ (by decide)
  refine lv_aload_n hx hb dX0_takeLatest_8 rfl (lv_at hl 0 rfl) ?_
  refine lv_dup hx hb dX0_takeLatest_9 rfl ?_
  refine va_get (D := (dC, dI)) (ci := 0) (v := .int (nI (w + 1))) (C := RX0) (T := TX0) (N := 3) hx hb htX0 (fun _ h => h) hown hK (fl_at hP 0 rfl) 0 rfl rfl 2 (by decide) (hts _ u_121) (fun _ h9 => h9) rfl dX0_takeLatest_10 ?_
  refine lv_iconst (v := 1) hx hb dX0_takeLatest_13 (by decide) ?_
  refine lv_isub hx hb dX0_takeLatest_14 ?_
  refine lv_tope (y := (nI w)) (nI_pred w) ?_
  refine va_put (D := (dC, dI)) (ci := 0) (v := .int (nI w)) (ty := .int) (C := RX0) (T := TX0) (N := 3) hx hb htX0 (fun _ h => h) tyX0 tyX0_ok nmX0 hown hK hP hD hS 0 rfl rfl 2 (by decide) (hts _ u_121) (fun _ h9 => h9) rfl (by decide +kernel) rfl rfl (Nat.le_of_ble_eq_true rfl) dX0_takeLatest_15 (fun H locs hP hD hS => ?_)
  have hP : va_P (dC, dI) vwCl (fl (hB cI cP h0 h1 pa Ps (nI o) (nI w) [pW cI ad P])) H := hP
  have hD : va_D A (fl (hB cI cP h0 h1 pa Ps (nI o) (nI w) [pW cI ad P])) := hD
  refine lv_aload_n hx hb dX0_takeLatest_18 rfl (lv_at hl 0 rfl) ?_
  refine lv_aload_n hx hb dX0_takeLatest_19 rfl (lv_at hl 0 rfl) ?_
  refine va_get (D := (dC, dI)) (ci := 0) (v := .int (nI o)) (C := RX0) (T := TX0) (N := 3) hx hb htX0 (fun _ h => h) hown hK (fl_at hP 0 rfl) 0 rfl rfl 1 (by decide) (hts _ u_120) (fun _ h9 => h9) rfl dX0_takeLatest_20 ?_
  refine lv_aload_n hx hb dX0_takeLatest_23 rfl (lv_at hl 0 rfl) ?_
  refine va_get (D := (dC, dI)) (ci := 0) (v := .int (nI w)) (C := RX0) (T := TX0) (N := 3) hx hb htX0 (fun _ h => h) hown hK (fl_at hP 0 rfl) 0 rfl rfl 2 (by decide) (hts _ u_121) (fun _ h9 => h9) rfl dX0_takeLatest_24 ?_
  refine lv_iadd hx hb dX0_takeLatest_27 ?_
  refine lv_tope (y := (nI (o + w))) (nI_add o w) ?_
  refine va_csr (W.runV (As := [.int (nI (o + w))]) (rest := []) ⟨hx, hb, hml, hown, hts0⟩ (mX0_planAt l dC dI cI cP h0 h1 pa (nI o) (nI w) (o + w) (by omega)) (cwV 1 hts0 (gi_V u_240 u_242 us_1 u_5 u_243) rfl rfl rfl (by decide +kernel) ⟨Nat.le_of_ble_eq_true rfl, Nat.le_of_ble_eq_true rfl⟩) (pcR_V (ci := 0) (q0 := 0) (fl_at hP 0 rfl) hK hn rfl rfl) rfl rfl hl.1 rfl (lv_room (Nat.le_of_ble_eq_true rfl)) dX0_takeLatest_28 ⟨Nat.zero_le _, Nat.zero_le _⟩) (fun k9 hk9 => ?_)
  rw [← hj] at hk9
  subst hk9
  refine lv_astore_n (lv' := [(2, .ref (pa k9 0)), (0, .ref h0), (1, .ref (ad 0))]) hx hb dX0_takeLatest_31 rfl hl (by decide) rfl (fun ls hl => ?_)
  refine lv_aload_n hx hb dX0_takeLatest_32 rfl (lv_at hl 0 rfl) ?_
  refine lv_ifnull hx hb dX0_takeLatest_33 ?_
  refine lv_aload_n hx hb dX0_takeLatest_36 rfl (lv_at hl 2 rfl) ?_
  refine lv_aload_n hx hb dX0_takeLatest_37 rfl (lv_at hl 0 rfl) ?_
  refine k_bmutv (Bs := hB cI cP h0 h1 pa Ps (nI o) (nI w) [pW cI ad P]) (wc := [pW cI ad P, pW cI (pa k9) (Ps k9)]) (W1 := fun (v : PV) => [pW cI ad v, pW cI (pa k9) (Ps k9)]) (va_runV (As := [.ref (pa k9 0)]) (rest := []) ⟨hx, hb, hml, hown, hts0⟩ (mX2_copyFrom l dC dI cI ad P (pa k9) (Ps k9)) (cwV 1 hts0 (gi_V u_244 u_245 u_246 u_2 u_247) rfl rfl rfl (by decide +kernel) ⟨Nat.le_of_ble_eq_true rfl, Nat.le_of_ble_eq_true rfl⟩) (pcM_V (ci := 2) (q0 := 0) (fl_sub (wc := [pW cI ad P, pW cI (pa k9) (Ps k9)]) hP [7, 1 + k9] (by rw [List.map_cons, List.map_cons, hB_get hj6]; rfl)) (hK.sub (tys' := [(cI, .int)]) [0] rfl) hn (fl_D (wc := [pW cI ad P, pW cI (pa k9) (Ps k9)]) hD [7, 1 + k9] (by simp [va_nd]; omega) (by rw [List.map_cons, List.map_cons, hB_get hj6]; rfl)) rfl rfl) rfl rfl hl.1 rfl (lv_room (Nat.le_of_ble_eq_true rfl)) dX0_takeLatest_38 ⟨Nat.zero_le _, Nat.zero_le _⟩) hP hD hS [7, 1 + k9] (by simp [va_nd]; omega) (by rw [List.map_cons, List.map_cons, hB_get hj6]; rfl) (fun _ => rfl) (fun U20 H locs hU20 hP hD hS => ?_)
  rw [hB_last hj6] at hP hD
  have hF : fX0_takeLatest Ps o (w + 1) P = (U20, w) := by
    unfold fX0_takeLatest
    rw [if_neg hv0, Nat.add_sub_cancel, ← hj, hU20]
  rw [hQ]
  exact W.vret hx hb hr (fun t ht hW => ⟨⟨(U20, w), rfl, hF.symm, toH ht hP⟩, hS.F ht⟩) hS.2.2 dX0_takeLatest_41

