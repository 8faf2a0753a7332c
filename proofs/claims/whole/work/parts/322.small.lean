theorem D_nil {A : Nat → Prop} : va_D A [] := ⟨fun i j p q hi _ _ => by simp at hi, fun k q hk => by simp at hk⟩
section KT
variable {s : State} {H : Heap} {locs : List Loc} {A : Nat → Prop} {D : va_G}
/-- the same where the trial may have been written -/
theorem xt_new {β : Type} {Ft : Nat ⊕ β} {cd : Nat} {wT : PV → va_W} (PT9 : PV) (hF : Ft = Sum.inl cd) (hP : va_P D vwCl (wT PT9) H) (hS : va_S A s.heap H locs) : ∀ t : State, s.vm.Alike t.vm → H.size ≤ t.heap.size → (∀ q : Nat, q < H.size → t.heap[q]? = H[q]?) → vx_X (fun c9 : Nat => Ft = Sum.inl c9) (fun E c9 t => E = xname c9 ∧ ∃ P9 : PV, va_P D vwCl (wT P9) t.heap) A (xname cd) s t :=
  fun t _ hz hq => ⟨cd, hF, ⟨rfl, PT9, hP.kept (fun k q hk => hq q.1 (vx_lt hP hk))⟩, ⟨Nat.le_trans hS.1 hz, fun q h1 h2 => (hq q (Nat.lt_of_lt_of_le h1 hS.1)).trans (hS.2.1 q h1 h2)⟩⟩
theorem xt_out {β : Type} {Ft : Nat ⊕ β} {cd : Nat} {wT : PV → va_W} (PT9 : PV) (hF : Ft = Sum.inl cd) (hP : va_P D vwCl (wT PT9) H) (hS : va_S A s.heap H locs) : ∀ t : State, t.heap = H → s.vm.Alike t.vm → vx_X (fun c9 : Nat => Ft = Sum.inl c9) (fun E c9 t => E = xname c9 ∧ ∃ P9 : PV, va_P D vwCl (wT P9) t.heap) A (xname cd) s t :=
  fun t ht _ => ⟨cd, hF, ⟨rfl, PT9, toH ht hP⟩, hS.F ht⟩
end KT
