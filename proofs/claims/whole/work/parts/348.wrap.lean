/-! the law's small methods: contracts. Mine. -/
def pcW (D : va_G) (tys : List (ClassId × FieldType)) (ws : va_W) (av : List Value) (cI : ClassId) (qL qG : Nat) : Array Value → State → Prop := va_Pc av (fun U => va_P D vwCl ws U.heap ∧ va_K D vwCl tys U ∧ nst U ∧ va_D (fun _ => True) ws ∧ xok (adr ws) U ∧ xnc U ∧ xst (adr ws) cI qL qG U)
theorem pcW_blind {D : va_G} {tys : List (ClassId × FieldType)} {ws : va_W} {av : List Value} {cI : ClassId} {qL qG : Nat} : FrameBlind (pcW D tys ws av cI qL qG) := fun a U g mk q => ⟨q.1, q.2.1, va_K.moved (u := U) (U := U.calling g mk a) (Vm.Alike.refl U.vm) q.2.2.1, nst_same (u := U) (U := U.calling g mk a) rfl q.2.2.2.1, q.2.2.2.2.1, xok_call q.2.2.2.2.2.1, xnc_moved (u := U) (U := U.calling g mk a) (Vm.Alike.refl U.vm) q.2.2.2.2.2.2.1, xst_call q.2.2.2.2.2.2.2⟩
theorem pcW_S {s : State} {H : Heap} {D : va_G} {tys : List (ClassId × FieldType)} {ws : va_W} {A : Nat → Prop} {As : List Value} {locs : List Loc} {cI : ClassId} {qL qG : Nat} (hP : va_P D vwCl ws H) (hK : va_K D vwCl tys s) (hn : nst s) (hD : va_D A ws) (hX : xok A s) (hN : xnc s) (hT : xst A cI qL qG s) (hS : va_S A s.heap H locs) : PreS s H (pcW D tys ws As cI qL qG) As := ⟨pcW_blind, fun U hU hW => ⟨rfl, by rw [hU]; exact hP, va_K.moved hW.alike hK, nst_warm hW hn, hD.weaken (fun _ _ _ _ => trivial), xok_at hX hS hU hW (D_addr.mp hD).2, xnc_moved hW.alike hN, xst_at hT hS hU hW (D_addr.mp hD).2⟩⟩
section KW
variable {p : Program} {l : Launch} {e : Env} {R : Room} {s : State} {m : MethodId} {args : Array Value} {below : List Frame} {meth : Method} {c : Code} {H : Heap} {locs : List Loc} {cells slots : Nat} {Q : State → Prop}
variable {pc : Nat} {ls : Array Slot} {rest st0 : List Value} {a : Array Value} {A : Nat → Prop} {D : va_G} {wf wo : va_W} {cc : ByteArray} {mc ms : Nat} {free : Addr → Prop}
/-- a call on the second of two blocks, which may throw -/
theorem k_cthr {S : Type} {post : Int32 → S → Prop} {px : Nat → Prop} {W1 : S → va_W} (hr : vx_Run p l e R s m args below meth c H locs cells slots mc ms (F0 m pc ls st0) rest (va_Qi post (fun u t => va_P D vwCl (W1 u) t.heap) (adr wf) a) (vx_X px (fun E c9 t => E = xname c9 ∧ va_P D vwCl wf t.heap) (adr wf)) (adr wf))
    (hP : va_P D vwCl (fl [wo, wf]) H) (hD : va_D A (fl [wo, wf])) (hS : va_S A s.heap H locs) (hw : ∀ u, (W1 u).map (fun c => c.1) = wf.map (fun c => c.1))
    (kx : ∀ (c9 : Nat) (ce : Cell) (q9 : Addr) (H1 : Heap) (locs1 : List Loc), px c9 → va_P D vwCl (fl [wo, wf]) H1 → va_D A (fl [wo, wf]) → va_S A s.heap H1 locs1 → H1[q9]? = some ce → ce.vm = .none → s.vm.findClass (xname c9) = some ce.cls → vx_W p l e R s m args below meth c H1 locs1 (cells + mc) (slots + ms) Q (F0 m pc ls rest) q9)
    (kk : ∀ (r : Int32) (u : S) (H1 : Heap) (locs1 : List Loc), post r u → va_P D vwCl (fl [wo, W1 u]) H1 → va_D A (fl [wo, W1 u]) → va_S A s.heap H1 locs1 → W p l e R s m args below meth c H1 locs1 (cells + mc) (slots + ms) Q (F0 m (pc + 3) ls (.int r :: rest))) : W p l e R s m args below meth c H locs cells slots Q (F0 m pc ls st0) := by
  have hA : ∀ q, adr wf q → A q := adr_fl (wc := [wf]) hD [1] rfl rfl
  refine vx_calli hr hS (fun q _ h => hA q h) hA (fun q _ h => hA q h) (fun E ce q9 u t H1 locs1 ht hvm hp hB hz hk hS1 he hv hc => ?_) (fun r u t H1 locs1 ht hvm hp hB hz hk hS1 => ?_)
  · obtain ⟨rfl, hB⟩ := hB
    rw [ht] at hB
    exact kx u ce q9 H1 locs1 hp (blk (wc := [wf]) (w1 := [wf]) hP hD [1] rfl rfl rfl hk hB).1 hD hS1 he hv hc
  · rw [ht] at hB
    obtain ⟨h1, h2⟩ := blk (wc := [wf]) (w1 := [W1 u]) hP hD [1] rfl rfl (by simp only [bad, List.map_cons, List.map_nil, hw u]) hk hB
    exact kk r u H1 locs1 hp h1 h2 hS1
/-- the same where a throw may leave one thing written -/
theorem k_cthrT {S V : Type} {post : Int32 → S → Prop} {px : Nat → Prop} {W1 : S → va_W} {WX : V → va_W} (hr : vx_Run p l e R s m args below meth c H locs cells slots mc ms (F0 m pc ls st0) rest (va_Qi post (fun u t => va_P D vwCl (W1 u) t.heap) (adr wf) a) (vx_X px (fun E c9 t => E = xname c9 ∧ ∃ v : V, va_P D vwCl (WX v) t.heap) (adr wf)) (adr wf))
    (hP : va_P D vwCl (fl [wo, wf]) H) (hD : va_D A (fl [wo, wf])) (hS : va_S A s.heap H locs) (hw : ∀ u, (W1 u).map (fun c => c.1) = wf.map (fun c => c.1)) (hx : ∀ v, (WX v).map (fun c => c.1) = wf.map (fun c => c.1))
    (kx : ∀ (c9 : Nat) (v : V) (ce : Cell) (q9 : Addr) (H1 : Heap) (locs1 : List Loc), px c9 → va_P D vwCl (fl [wo, WX v]) H1 → va_D A (fl [wo, WX v]) → va_S A s.heap H1 locs1 → H1[q9]? = some ce → ce.vm = .none → s.vm.findClass (xname c9) = some ce.cls → vx_W p l e R s m args below meth c H1 locs1 (cells + mc) (slots + ms) Q (F0 m pc ls rest) q9)
    (kk : ∀ (r : Int32) (u : S) (H1 : Heap) (locs1 : List Loc), post r u → va_P D vwCl (fl [wo, W1 u]) H1 → va_D A (fl [wo, W1 u]) → va_S A s.heap H1 locs1 → W p l e R s m args below meth c H1 locs1 (cells + mc) (slots + ms) Q (F0 m (pc + 3) ls (.int r :: rest))) : W p l e R s m args below meth c H locs cells slots Q (F0 m pc ls st0) := by
  have hA : ∀ q, adr wf q → A q := adr_fl (wc := [wf]) hD [1] rfl rfl
  refine vx_calli hr hS (fun q _ h => hA q h) hA (fun q _ h => hA q h) (fun E ce q9 u t H1 locs1 ht hvm hp hB hz hk hS1 he hv hc => ?_) (fun r u t H1 locs1 ht hvm hp hB hz hk hS1 => ?_)
  · obtain ⟨rfl, v, hB⟩ := hB
    rw [ht] at hB
    obtain ⟨h1, h2⟩ := blk (wc := [wf]) (w1 := [WX v]) hP hD [1] rfl rfl (by simp only [bad, List.map_cons, List.map_nil, hx v]) hk hB
    exact kx u v ce q9 H1 locs1 hp h1 h2 hS1 he hv hc
  · rw [ht] at hB
    obtain ⟨h1, h2⟩ := blk (wc := [wf]) (w1 := [W1 u]) hP hD [1] rfl rfl (by simp only [bad, List.map_cons, List.map_nil, hw u]) hk hB
    exact kk r u H1 locs1 hp h1 h2 hS1
end KW
section KV
variable {s : State} {H : Heap} {A : Nat → Prop} {D : va_G} {wo wf : va_W} {locs : List Loc} {cI cP cL : ClassId} {qL qG a : Nat} {As fs : List Value}
theorem pcWX {q : vw_C} (hP : va_P D vwCl (fl [wo, wf]) H) (hK : va_K D vwCl [(cI, .int), (cP, .object "SupperSeats$Plan"), (cL, .long)] s) (hn : nst s) (hD : va_D A (fl [wo, wf])) (hX : xok A s) (hS : va_S A s.heap H locs) (hc : vwCl[4]? = some q) (he : wf[0]? = some (a, .inr (4, fs))) : PreV s H q.1 a (pcX D [(cI, .int), (cP, .object "SupperSeats$Plan")] wf (.ref a :: As)) As := pcX_V (fl_at hP 1 rfl) (hK.sub (tys' := [(cI, .int), (cP, .object "SupperSeats$Plan")]) [0, 1] rfl) hn (fl_D1 hD 1 rfl) hX hS hc he
theorem pcWY {q : vw_C} (hP : va_P D vwCl (fl [wo, wf]) H) (hK : va_K D vwCl [(cI, .int), (cP, .object "SupperSeats$Plan"), (cL, .long)] s) (hn : nst s) (hD : va_D A (fl [wo, wf])) (hX : xok A s) (hT : xst A cI qL qG s) (hS : va_S A s.heap H locs) (hc : vwCl[4]? = some q) (he : wf[0]? = some (a, .inr (4, fs))) : PreV s H q.1 a (pcY D [(cI, .int), (cP, .object "SupperSeats$Plan")] wf (.ref a :: As) cI qL qG) As := pcY_V (fl_at hP 1 rfl) (hK.sub (tys' := [(cI, .int), (cP, .object "SupperSeats$Plan")]) [0, 1] rfl) hn (fl_D1 hD 1 rfl) hX hT hS hc he
end KV
