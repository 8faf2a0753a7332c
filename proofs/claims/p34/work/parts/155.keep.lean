theorem seatsAt_5 {U P : PV} (h : U 5 = P 5) (tb : Int32) : fX2_seatsAt U tb = fX2_seatsAt P tb := by unfold fX2_seatsAt; rw [h]
theorem standUp_5 (P : PV) (g : Int32) : fX2_standUp P g 5 = P 5 := rfl
theorem standUp_10_0 (P : PV) (g : Int32) : fX2_standUp P g 10 0 = P 10 0 := rfl
theorem standUp_10_1 (P : PV) (g : Int32) : fX2_standUp P g 10 1 = P 10 1 := rfl
theorem takeSeat_10_0 (P : PV) (g tb z : Int32) : fX2_takeSeat P g tb z 10 0 = P 10 0 := by
  show ((if (fX2_isSitting P g) = 0 then P else fX2_standUp P g) : PV) 10 0 = P 10 0
  split
  · rfl
  · rfl

