theorem lay_eq (f : Nat → Int32) (b g w : Nat) (v : Int32) : fX7_lay f b g w v = upd f (b + 38 + 5 * g + w) v := rfl
theorem RW_lay3 {f : Nat → Int32} {b g : Nat} (hR : RW f b) (hg : g < 16) {v : Int32} (hv : TW v) : RW (fX7_lay f b g 3 v) b := by
  obtain ⟨rB, rG, rT, rF, rS, rTW, rWW⟩ := hR
  rw [lay_eq]
  refine ⟨rB, ?_, ?_, ?_, ?_, fun j hj => ?_, fun j hj => ?_⟩
  · rw [upd_ne (by omega)]; exact rG
  · rw [upd_ne (by omega)]; exact rT
  · rw [upd_ne (by omega)]; exact rF
  · rw [upd_ne (by omega)]; exact rS
  · by_cases h : j = g
    · subst h; rw [upd_eq]; exact hv
    · rw [upd_ne (by omega)]; exact rTW j hj
  · rw [upd_ne (by omega)]; exact rWW j hj
theorem RW_lay4 {f : Nat → Int32} {b g : Nat} (hR : RW f b) (v : Int32) : RW (fX7_lay f b g 4 v) b := by
  obtain ⟨rB, rG, rT, rF, rS, rTW, rWW⟩ := hR
  rw [lay_eq]
  refine ⟨rB, ?_, ?_, ?_, ?_, fun j hj => ?_, fun j hj => ?_⟩
  · rw [upd_ne (by omega)]; exact rG
  · rw [upd_ne (by omega)]; exact rT
  · rw [upd_ne (by omega)]; exact rF
  · rw [upd_ne (by omega)]; exact rS
  · rw [upd_ne (by omega)]; exact rTW j hj
  · rw [upd_ne (by omega)]; exact rWW j hj
theorem RW_lay2 {f : Nat → Int32} {b g t : Nat} (hR : RW f b) (hg : g < 16) (ht : t < 4) (z : Int32) : RW (fX7_lay (fX7_lay f b g 3 (nI t)) b g 4 z) b := RW_lay4 (RW_lay3 hR hg (Or.inr ⟨t, ht, rfl⟩)) z
theorem lay4_same (f : Nat → Int32) (b g : Nat) {v z : Int32} : fX7_lay (fX7_lay (fX7_lay (fX7_lay f b g 3 v) b g 4 z) b g 3 (fX7_of f b g 3)) b g 4 (fX7_of f b g 4) = f := by
  simp only [lay_eq]
  rw [upd_comm (by omega : b + 38 + 5 * g + 4 ≠ b + 38 + 5 * g + 3), upd_upd]
  show upd (upd (upd f (b + 38 + 5 * g + 3) v) (b + 38 + 5 * g + 3) (f (b + 38 + 5 * g + 3))) (b + 38 + 5 * g + 4) (f (b + 38 + 5 * g + 4)) = f
  rw [upd_upd, upd_self, upd_self]
theorem T8_le {x : Int32} (h : IN x 4) : (8 * x).toNatClampNeg ≤ 32 := by
  obtain ⟨t9, ht9, rfl⟩ := h
  rw [show (8 : Int32) * nI t9 = nI (8 * t9) from pk_mul 8 t9, nI_clamp (by omega)]
  omega

