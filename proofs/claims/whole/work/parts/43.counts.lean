/-! THE CLASS: many, astray -/
def bcI (x : Int64) : Int32 := (((((((((x - (((x.toUInt64 >>> ((1 : Int32).toInt64.toUInt64 &&& Int64.toUInt64 63)).toInt64) &&& 6148914691236517205)) &&& 3689348814741910323) + ((((x - (((x.toUInt64 >>> ((1 : Int32).toInt64.toUInt64 &&& Int64.toUInt64 63)).toInt64) &&& 6148914691236517205)).toUInt64 >>> ((2 : Int32).toInt64.toUInt64 &&& Int64.toUInt64 63)).toInt64) &&& 3689348814741910323)) + (((((x - (((x.toUInt64 >>> ((1 : Int32).toInt64.toUInt64 &&& Int64.toUInt64 63)).toInt64) &&& 6148914691236517205)) &&& 3689348814741910323) + ((((x - (((x.toUInt64 >>> ((1 : Int32).toInt64.toUInt64 &&& Int64.toUInt64 63)).toInt64) &&& 6148914691236517205)).toUInt64 >>> ((2 : Int32).toInt64.toUInt64 &&& Int64.toUInt64 63)).toInt64) &&& 3689348814741910323)).toUInt64 >>> ((4 : Int32).toInt64.toUInt64 &&& Int64.toUInt64 63)).toInt64)) &&& 1085102592571150095) + (((((((x - (((x.toUInt64 >>> ((1 : Int32).toInt64.toUInt64 &&& Int64.toUInt64 63)).toInt64) &&& 6148914691236517205)) &&& 3689348814741910323) + ((((x - (((x.toUInt64 >>> ((1 : Int32).toInt64.toUInt64 &&& Int64.toUInt64 63)).toInt64) &&& 6148914691236517205)).toUInt64 >>> ((2 : Int32).toInt64.toUInt64 &&& Int64.toUInt64 63)).toInt64) &&& 3689348814741910323)) + (((((x - (((x.toUInt64 >>> ((1 : Int32).toInt64.toUInt64 &&& Int64.toUInt64 63)).toInt64) &&& 6148914691236517205)) &&& 3689348814741910323) + ((((x - (((x.toUInt64 >>> ((1 : Int32).toInt64.toUInt64 &&& Int64.toUInt64 63)).toInt64) &&& 6148914691236517205)).toUInt64 >>> ((2 : Int32).toInt64.toUInt64 &&& Int64.toUInt64 63)).toInt64) &&& 3689348814741910323)).toUInt64 >>> ((4 : Int32).toInt64.toUInt64 &&& Int64.toUInt64 63)).toInt64)) &&& 1085102592571150095).toUInt64 >>> ((8 : Int32).toInt64.toUInt64 &&& Int64.toUInt64 63)).toInt64)) + ((((((((x - (((x.toUInt64 >>> ((1 : Int32).toInt64.toUInt64 &&& Int64.toUInt64 63)).toInt64) &&& 6148914691236517205)) &&& 3689348814741910323) + ((((x - (((x.toUInt64 >>> ((1 : Int32).toInt64.toUInt64 &&& Int64.toUInt64 63)).toInt64) &&& 6148914691236517205)).toUInt64 >>> ((2 : Int32).toInt64.toUInt64 &&& Int64.toUInt64 63)).toInt64) &&& 3689348814741910323)) + (((((x - (((x.toUInt64 >>> ((1 : Int32).toInt64.toUInt64 &&& Int64.toUInt64 63)).toInt64) &&& 6148914691236517205)) &&& 3689348814741910323) + ((((x - (((x.toUInt64 >>> ((1 : Int32).toInt64.toUInt64 &&& Int64.toUInt64 63)).toInt64) &&& 6148914691236517205)).toUInt64 >>> ((2 : Int32).toInt64.toUInt64 &&& Int64.toUInt64 63)).toInt64) &&& 3689348814741910323)).toUInt64 >>> ((4 : Int32).toInt64.toUInt64 &&& Int64.toUInt64 63)).toInt64)) &&& 1085102592571150095) + (((((((x - (((x.toUInt64 >>> ((1 : Int32).toInt64.toUInt64 &&& Int64.toUInt64 63)).toInt64) &&& 6148914691236517205)) &&& 3689348814741910323) + ((((x - (((x.toUInt64 >>> ((1 : Int32).toInt64.toUInt64 &&& Int64.toUInt64 63)).toInt64) &&& 6148914691236517205)).toUInt64 >>> ((2 : Int32).toInt64.toUInt64 &&& Int64.toUInt64 63)).toInt64) &&& 3689348814741910323)) + (((((x - (((x.toUInt64 >>> ((1 : Int32).toInt64.toUInt64 &&& Int64.toUInt64 63)).toInt64) &&& 6148914691236517205)) &&& 3689348814741910323) + ((((x - (((x.toUInt64 >>> ((1 : Int32).toInt64.toUInt64 &&& Int64.toUInt64 63)).toInt64) &&& 6148914691236517205)).toUInt64 >>> ((2 : Int32).toInt64.toUInt64 &&& Int64.toUInt64 63)).toInt64) &&& 3689348814741910323)).toUInt64 >>> ((4 : Int32).toInt64.toUInt64 &&& Int64.toUInt64 63)).toInt64)) &&& 1085102592571150095).toUInt64 >>> ((8 : Int32).toInt64.toUInt64 &&& Int64.toUInt64 63)).toInt64)).toUInt64 >>> ((16 : Int32).toInt64.toUInt64 &&& Int64.toUInt64 63)).toInt64)) + (((((((((x - (((x.toUInt64 >>> ((1 : Int32).toInt64.toUInt64 &&& Int64.toUInt64 63)).toInt64) &&& 6148914691236517205)) &&& 3689348814741910323) + ((((x - (((x.toUInt64 >>> ((1 : Int32).toInt64.toUInt64 &&& Int64.toUInt64 63)).toInt64) &&& 6148914691236517205)).toUInt64 >>> ((2 : Int32).toInt64.toUInt64 &&& Int64.toUInt64 63)).toInt64) &&& 3689348814741910323)) + (((((x - (((x.toUInt64 >>> ((1 : Int32).toInt64.toUInt64 &&& Int64.toUInt64 63)).toInt64) &&& 6148914691236517205)) &&& 3689348814741910323) + ((((x - (((x.toUInt64 >>> ((1 : Int32).toInt64.toUInt64 &&& Int64.toUInt64 63)).toInt64) &&& 6148914691236517205)).toUInt64 >>> ((2 : Int32).toInt64.toUInt64 &&& Int64.toUInt64 63)).toInt64) &&& 3689348814741910323)).toUInt64 >>> ((4 : Int32).toInt64.toUInt64 &&& Int64.toUInt64 63)).toInt64)) &&& 1085102592571150095) + (((((((x - (((x.toUInt64 >>> ((1 : Int32).toInt64.toUInt64 &&& Int64.toUInt64 63)).toInt64) &&& 6148914691236517205)) &&& 3689348814741910323) + ((((x - (((x.toUInt64 >>> ((1 : Int32).toInt64.toUInt64 &&& Int64.toUInt64 63)).toInt64) &&& 6148914691236517205)).toUInt64 >>> ((2 : Int32).toInt64.toUInt64 &&& Int64.toUInt64 63)).toInt64) &&& 3689348814741910323)) + (((((x - (((x.toUInt64 >>> ((1 : Int32).toInt64.toUInt64 &&& Int64.toUInt64 63)).toInt64) &&& 6148914691236517205)) &&& 3689348814741910323) + ((((x - (((x.toUInt64 >>> ((1 : Int32).toInt64.toUInt64 &&& Int64.toUInt64 63)).toInt64) &&& 6148914691236517205)).toUInt64 >>> ((2 : Int32).toInt64.toUInt64 &&& Int64.toUInt64 63)).toInt64) &&& 3689348814741910323)).toUInt64 >>> ((4 : Int32).toInt64.toUInt64 &&& Int64.toUInt64 63)).toInt64)) &&& 1085102592571150095).toUInt64 >>> ((8 : Int32).toInt64.toUInt64 &&& Int64.toUInt64 63)).toInt64)) + ((((((((x - (((x.toUInt64 >>> ((1 : Int32).toInt64.toUInt64 &&& Int64.toUInt64 63)).toInt64) &&& 6148914691236517205)) &&& 3689348814741910323) + ((((x - (((x.toUInt64 >>> ((1 : Int32).toInt64.toUInt64 &&& Int64.toUInt64 63)).toInt64) &&& 6148914691236517205)).toUInt64 >>> ((2 : Int32).toInt64.toUInt64 &&& Int64.toUInt64 63)).toInt64) &&& 3689348814741910323)) + (((((x - (((x.toUInt64 >>> ((1 : Int32).toInt64.toUInt64 &&& Int64.toUInt64 63)).toInt64) &&& 6148914691236517205)) &&& 3689348814741910323) + ((((x - (((x.toUInt64 >>> ((1 : Int32).toInt64.toUInt64 &&& Int64.toUInt64 63)).toInt64) &&& 6148914691236517205)).toUInt64 >>> ((2 : Int32).toInt64.toUInt64 &&& Int64.toUInt64 63)).toInt64) &&& 3689348814741910323)).toUInt64 >>> ((4 : Int32).toInt64.toUInt64 &&& Int64.toUInt64 63)).toInt64)) &&& 1085102592571150095) + (((((((x - (((x.toUInt64 >>> ((1 : Int32).toInt64.toUInt64 &&& Int64.toUInt64 63)).toInt64) &&& 6148914691236517205)) &&& 3689348814741910323) + ((((x - (((x.toUInt64 >>> ((1 : Int32).toInt64.toUInt64 &&& Int64.toUInt64 63)).toInt64) &&& 6148914691236517205)).toUInt64 >>> ((2 : Int32).toInt64.toUInt64 &&& Int64.toUInt64 63)).toInt64) &&& 3689348814741910323)) + (((((x - (((x.toUInt64 >>> ((1 : Int32).toInt64.toUInt64 &&& Int64.toUInt64 63)).toInt64) &&& 6148914691236517205)) &&& 3689348814741910323) + ((((x - (((x.toUInt64 >>> ((1 : Int32).toInt64.toUInt64 &&& Int64.toUInt64 63)).toInt64) &&& 6148914691236517205)).toUInt64 >>> ((2 : Int32).toInt64.toUInt64 &&& Int64.toUInt64 63)).toInt64) &&& 3689348814741910323)).toUInt64 >>> ((4 : Int32).toInt64.toUInt64 &&& Int64.toUInt64 63)).toInt64)) &&& 1085102592571150095).toUInt64 >>> ((8 : Int32).toInt64.toUInt64 &&& Int64.toUInt64 63)).toInt64)).toUInt64 >>> ((16 : Int32).toInt64.toUInt64 &&& Int64.toUInt64 63)).toInt64)).toUInt64 >>> ((32 : Int32).toInt64.toUInt64 &&& Int64.toUInt64 63)).toInt64)).toInt32) &&& 127
set_option maxHeartbeats 4000000 in
theorem am_bitCount {d : Nat} {w : List va_E} (x : Int64) : AM j_bitCount d (.inl (some (.int (bcI x)))) [.long x] w w := by
  refine aq_enter pl_j_bitCount (Nat.le_of_ble_eq_true rfl) ?_
  refine aq_gn (n := 48) (c1 := (60, [some (.long ((((((((x - (((x.toUInt64 >>> ((1 : Int32).toInt64.toUInt64 &&& Int64.toUInt64 63)).toInt64) &&& 6148914691236517205)) &&& 3689348814741910323) + ((((x - (((x.toUInt64 >>> ((1 : Int32).toInt64.toUInt64 &&& Int64.toUInt64 63)).toInt64) &&& 6148914691236517205)).toUInt64 >>> ((2 : Int32).toInt64.toUInt64 &&& Int64.toUInt64 63)).toInt64) &&& 3689348814741910323)) + (((((x - (((x.toUInt64 >>> ((1 : Int32).toInt64.toUInt64 &&& Int64.toUInt64 63)).toInt64) &&& 6148914691236517205)) &&& 3689348814741910323) + ((((x - (((x.toUInt64 >>> ((1 : Int32).toInt64.toUInt64 &&& Int64.toUInt64 63)).toInt64) &&& 6148914691236517205)).toUInt64 >>> ((2 : Int32).toInt64.toUInt64 &&& Int64.toUInt64 63)).toInt64) &&& 3689348814741910323)).toUInt64 >>> ((4 : Int32).toInt64.toUInt64 &&& Int64.toUInt64 63)).toInt64)) &&& 1085102592571150095) + (((((((x - (((x.toUInt64 >>> ((1 : Int32).toInt64.toUInt64 &&& Int64.toUInt64 63)).toInt64) &&& 6148914691236517205)) &&& 3689348814741910323) + ((((x - (((x.toUInt64 >>> ((1 : Int32).toInt64.toUInt64 &&& Int64.toUInt64 63)).toInt64) &&& 6148914691236517205)).toUInt64 >>> ((2 : Int32).toInt64.toUInt64 &&& Int64.toUInt64 63)).toInt64) &&& 3689348814741910323)) + (((((x - (((x.toUInt64 >>> ((1 : Int32).toInt64.toUInt64 &&& Int64.toUInt64 63)).toInt64) &&& 6148914691236517205)) &&& 3689348814741910323) + ((((x - (((x.toUInt64 >>> ((1 : Int32).toInt64.toUInt64 &&& Int64.toUInt64 63)).toInt64) &&& 6148914691236517205)).toUInt64 >>> ((2 : Int32).toInt64.toUInt64 &&& Int64.toUInt64 63)).toInt64) &&& 3689348814741910323)).toUInt64 >>> ((4 : Int32).toInt64.toUInt64 &&& Int64.toUInt64 63)).toInt64)) &&& 1085102592571150095).toUInt64 >>> ((8 : Int32).toInt64.toUInt64 &&& Int64.toUInt64 63)).toInt64)) + ((((((((x - (((x.toUInt64 >>> ((1 : Int32).toInt64.toUInt64 &&& Int64.toUInt64 63)).toInt64) &&& 6148914691236517205)) &&& 3689348814741910323) + ((((x - (((x.toUInt64 >>> ((1 : Int32).toInt64.toUInt64 &&& Int64.toUInt64 63)).toInt64) &&& 6148914691236517205)).toUInt64 >>> ((2 : Int32).toInt64.toUInt64 &&& Int64.toUInt64 63)).toInt64) &&& 3689348814741910323)) + (((((x - (((x.toUInt64 >>> ((1 : Int32).toInt64.toUInt64 &&& Int64.toUInt64 63)).toInt64) &&& 6148914691236517205)) &&& 3689348814741910323) + ((((x - (((x.toUInt64 >>> ((1 : Int32).toInt64.toUInt64 &&& Int64.toUInt64 63)).toInt64) &&& 6148914691236517205)).toUInt64 >>> ((2 : Int32).toInt64.toUInt64 &&& Int64.toUInt64 63)).toInt64) &&& 3689348814741910323)).toUInt64 >>> ((4 : Int32).toInt64.toUInt64 &&& Int64.toUInt64 63)).toInt64)) &&& 1085102592571150095) + (((((((x - (((x.toUInt64 >>> ((1 : Int32).toInt64.toUInt64 &&& Int64.toUInt64 63)).toInt64) &&& 6148914691236517205)) &&& 3689348814741910323) + ((((x - (((x.toUInt64 >>> ((1 : Int32).toInt64.toUInt64 &&& Int64.toUInt64 63)).toInt64) &&& 6148914691236517205)).toUInt64 >>> ((2 : Int32).toInt64.toUInt64 &&& Int64.toUInt64 63)).toInt64) &&& 3689348814741910323)) + (((((x - (((x.toUInt64 >>> ((1 : Int32).toInt64.toUInt64 &&& Int64.toUInt64 63)).toInt64) &&& 6148914691236517205)) &&& 3689348814741910323) + ((((x - (((x.toUInt64 >>> ((1 : Int32).toInt64.toUInt64 &&& Int64.toUInt64 63)).toInt64) &&& 6148914691236517205)).toUInt64 >>> ((2 : Int32).toInt64.toUInt64 &&& Int64.toUInt64 63)).toInt64) &&& 3689348814741910323)).toUInt64 >>> ((4 : Int32).toInt64.toUInt64 &&& Int64.toUInt64 63)).toInt64)) &&& 1085102592571150095).toUInt64 >>> ((8 : Int32).toInt64.toUInt64 &&& Int64.toUInt64 63)).toInt64)).toUInt64 >>> ((16 : Int32).toInt64.toUInt64 &&& Int64.toUInt64 63)).toInt64)) + (((((((((x - (((x.toUInt64 >>> ((1 : Int32).toInt64.toUInt64 &&& Int64.toUInt64 63)).toInt64) &&& 6148914691236517205)) &&& 3689348814741910323) + ((((x - (((x.toUInt64 >>> ((1 : Int32).toInt64.toUInt64 &&& Int64.toUInt64 63)).toInt64) &&& 6148914691236517205)).toUInt64 >>> ((2 : Int32).toInt64.toUInt64 &&& Int64.toUInt64 63)).toInt64) &&& 3689348814741910323)) + (((((x - (((x.toUInt64 >>> ((1 : Int32).toInt64.toUInt64 &&& Int64.toUInt64 63)).toInt64) &&& 6148914691236517205)) &&& 3689348814741910323) + ((((x - (((x.toUInt64 >>> ((1 : Int32).toInt64.toUInt64 &&& Int64.toUInt64 63)).toInt64) &&& 6148914691236517205)).toUInt64 >>> ((2 : Int32).toInt64.toUInt64 &&& Int64.toUInt64 63)).toInt64) &&& 3689348814741910323)).toUInt64 >>> ((4 : Int32).toInt64.toUInt64 &&& Int64.toUInt64 63)).toInt64)) &&& 1085102592571150095) + (((((((x - (((x.toUInt64 >>> ((1 : Int32).toInt64.toUInt64 &&& Int64.toUInt64 63)).toInt64) &&& 6148914691236517205)) &&& 3689348814741910323) + ((((x - (((x.toUInt64 >>> ((1 : Int32).toInt64.toUInt64 &&& Int64.toUInt64 63)).toInt64) &&& 6148914691236517205)).toUInt64 >>> ((2 : Int32).toInt64.toUInt64 &&& Int64.toUInt64 63)).toInt64) &&& 3689348814741910323)) + (((((x - (((x.toUInt64 >>> ((1 : Int32).toInt64.toUInt64 &&& Int64.toUInt64 63)).toInt64) &&& 6148914691236517205)) &&& 3689348814741910323) + ((((x - (((x.toUInt64 >>> ((1 : Int32).toInt64.toUInt64 &&& Int64.toUInt64 63)).toInt64) &&& 6148914691236517205)).toUInt64 >>> ((2 : Int32).toInt64.toUInt64 &&& Int64.toUInt64 63)).toInt64) &&& 3689348814741910323)).toUInt64 >>> ((4 : Int32).toInt64.toUInt64 &&& Int64.toUInt64 63)).toInt64)) &&& 1085102592571150095).toUInt64 >>> ((8 : Int32).toInt64.toUInt64 &&& Int64.toUInt64 63)).toInt64)) + ((((((((x - (((x.toUInt64 >>> ((1 : Int32).toInt64.toUInt64 &&& Int64.toUInt64 63)).toInt64) &&& 6148914691236517205)) &&& 3689348814741910323) + ((((x - (((x.toUInt64 >>> ((1 : Int32).toInt64.toUInt64 &&& Int64.toUInt64 63)).toInt64) &&& 6148914691236517205)).toUInt64 >>> ((2 : Int32).toInt64.toUInt64 &&& Int64.toUInt64 63)).toInt64) &&& 3689348814741910323)) + (((((x - (((x.toUInt64 >>> ((1 : Int32).toInt64.toUInt64 &&& Int64.toUInt64 63)).toInt64) &&& 6148914691236517205)) &&& 3689348814741910323) + ((((x - (((x.toUInt64 >>> ((1 : Int32).toInt64.toUInt64 &&& Int64.toUInt64 63)).toInt64) &&& 6148914691236517205)).toUInt64 >>> ((2 : Int32).toInt64.toUInt64 &&& Int64.toUInt64 63)).toInt64) &&& 3689348814741910323)).toUInt64 >>> ((4 : Int32).toInt64.toUInt64 &&& Int64.toUInt64 63)).toInt64)) &&& 1085102592571150095) + (((((((x - (((x.toUInt64 >>> ((1 : Int32).toInt64.toUInt64 &&& Int64.toUInt64 63)).toInt64) &&& 6148914691236517205)) &&& 3689348814741910323) + ((((x - (((x.toUInt64 >>> ((1 : Int32).toInt64.toUInt64 &&& Int64.toUInt64 63)).toInt64) &&& 6148914691236517205)).toUInt64 >>> ((2 : Int32).toInt64.toUInt64 &&& Int64.toUInt64 63)).toInt64) &&& 3689348814741910323)) + (((((x - (((x.toUInt64 >>> ((1 : Int32).toInt64.toUInt64 &&& Int64.toUInt64 63)).toInt64) &&& 6148914691236517205)) &&& 3689348814741910323) + ((((x - (((x.toUInt64 >>> ((1 : Int32).toInt64.toUInt64 &&& Int64.toUInt64 63)).toInt64) &&& 6148914691236517205)).toUInt64 >>> ((2 : Int32).toInt64.toUInt64 &&& Int64.toUInt64 63)).toInt64) &&& 3689348814741910323)).toUInt64 >>> ((4 : Int32).toInt64.toUInt64 &&& Int64.toUInt64 63)).toInt64)) &&& 1085102592571150095).toUInt64 >>> ((8 : Int32).toInt64.toUInt64 &&& Int64.toUInt64 63)).toInt64)).toUInt64 >>> ((16 : Int32).toInt64.toUInt64 &&& Int64.toUInt64 63)).toInt64)).toUInt64 >>> ((32 : Int32).toInt64.toUInt64 &&& Int64.toUInt64 63)).toInt64))), none], [.int ((((((((((x - (((x.toUInt64 >>> ((1 : Int32).toInt64.toUInt64 &&& Int64.toUInt64 63)).toInt64) &&& 6148914691236517205)) &&& 3689348814741910323) + ((((x - (((x.toUInt64 >>> ((1 : Int32).toInt64.toUInt64 &&& Int64.toUInt64 63)).toInt64) &&& 6148914691236517205)).toUInt64 >>> ((2 : Int32).toInt64.toUInt64 &&& Int64.toUInt64 63)).toInt64) &&& 3689348814741910323)) + (((((x - (((x.toUInt64 >>> ((1 : Int32).toInt64.toUInt64 &&& Int64.toUInt64 63)).toInt64) &&& 6148914691236517205)) &&& 3689348814741910323) + ((((x - (((x.toUInt64 >>> ((1 : Int32).toInt64.toUInt64 &&& Int64.toUInt64 63)).toInt64) &&& 6148914691236517205)).toUInt64 >>> ((2 : Int32).toInt64.toUInt64 &&& Int64.toUInt64 63)).toInt64) &&& 3689348814741910323)).toUInt64 >>> ((4 : Int32).toInt64.toUInt64 &&& Int64.toUInt64 63)).toInt64)) &&& 1085102592571150095) + (((((((x - (((x.toUInt64 >>> ((1 : Int32).toInt64.toUInt64 &&& Int64.toUInt64 63)).toInt64) &&& 6148914691236517205)) &&& 3689348814741910323) + ((((x - (((x.toUInt64 >>> ((1 : Int32).toInt64.toUInt64 &&& Int64.toUInt64 63)).toInt64) &&& 6148914691236517205)).toUInt64 >>> ((2 : Int32).toInt64.toUInt64 &&& Int64.toUInt64 63)).toInt64) &&& 3689348814741910323)) + (((((x - (((x.toUInt64 >>> ((1 : Int32).toInt64.toUInt64 &&& Int64.toUInt64 63)).toInt64) &&& 6148914691236517205)) &&& 3689348814741910323) + ((((x - (((x.toUInt64 >>> ((1 : Int32).toInt64.toUInt64 &&& Int64.toUInt64 63)).toInt64) &&& 6148914691236517205)).toUInt64 >>> ((2 : Int32).toInt64.toUInt64 &&& Int64.toUInt64 63)).toInt64) &&& 3689348814741910323)).toUInt64 >>> ((4 : Int32).toInt64.toUInt64 &&& Int64.toUInt64 63)).toInt64)) &&& 1085102592571150095).toUInt64 >>> ((8 : Int32).toInt64.toUInt64 &&& Int64.toUInt64 63)).toInt64)) + ((((((((x - (((x.toUInt64 >>> ((1 : Int32).toInt64.toUInt64 &&& Int64.toUInt64 63)).toInt64) &&& 6148914691236517205)) &&& 3689348814741910323) + ((((x - (((x.toUInt64 >>> ((1 : Int32).toInt64.toUInt64 &&& Int64.toUInt64 63)).toInt64) &&& 6148914691236517205)).toUInt64 >>> ((2 : Int32).toInt64.toUInt64 &&& Int64.toUInt64 63)).toInt64) &&& 3689348814741910323)) + (((((x - (((x.toUInt64 >>> ((1 : Int32).toInt64.toUInt64 &&& Int64.toUInt64 63)).toInt64) &&& 6148914691236517205)) &&& 3689348814741910323) + ((((x - (((x.toUInt64 >>> ((1 : Int32).toInt64.toUInt64 &&& Int64.toUInt64 63)).toInt64) &&& 6148914691236517205)).toUInt64 >>> ((2 : Int32).toInt64.toUInt64 &&& Int64.toUInt64 63)).toInt64) &&& 3689348814741910323)).toUInt64 >>> ((4 : Int32).toInt64.toUInt64 &&& Int64.toUInt64 63)).toInt64)) &&& 1085102592571150095) + (((((((x - (((x.toUInt64 >>> ((1 : Int32).toInt64.toUInt64 &&& Int64.toUInt64 63)).toInt64) &&& 6148914691236517205)) &&& 3689348814741910323) + ((((x - (((x.toUInt64 >>> ((1 : Int32).toInt64.toUInt64 &&& Int64.toUInt64 63)).toInt64) &&& 6148914691236517205)).toUInt64 >>> ((2 : Int32).toInt64.toUInt64 &&& Int64.toUInt64 63)).toInt64) &&& 3689348814741910323)) + (((((x - (((x.toUInt64 >>> ((1 : Int32).toInt64.toUInt64 &&& Int64.toUInt64 63)).toInt64) &&& 6148914691236517205)) &&& 3689348814741910323) + ((((x - (((x.toUInt64 >>> ((1 : Int32).toInt64.toUInt64 &&& Int64.toUInt64 63)).toInt64) &&& 6148914691236517205)).toUInt64 >>> ((2 : Int32).toInt64.toUInt64 &&& Int64.toUInt64 63)).toInt64) &&& 3689348814741910323)).toUInt64 >>> ((4 : Int32).toInt64.toUInt64 &&& Int64.toUInt64 63)).toInt64)) &&& 1085102592571150095).toUInt64 >>> ((8 : Int32).toInt64.toUInt64 &&& Int64.toUInt64 63)).toInt64)).toUInt64 >>> ((16 : Int32).toInt64.toUInt64 &&& Int64.toUInt64 63)).toInt64)) + (((((((((x - (((x.toUInt64 >>> ((1 : Int32).toInt64.toUInt64 &&& Int64.toUInt64 63)).toInt64) &&& 6148914691236517205)) &&& 3689348814741910323) + ((((x - (((x.toUInt64 >>> ((1 : Int32).toInt64.toUInt64 &&& Int64.toUInt64 63)).toInt64) &&& 6148914691236517205)).toUInt64 >>> ((2 : Int32).toInt64.toUInt64 &&& Int64.toUInt64 63)).toInt64) &&& 3689348814741910323)) + (((((x - (((x.toUInt64 >>> ((1 : Int32).toInt64.toUInt64 &&& Int64.toUInt64 63)).toInt64) &&& 6148914691236517205)) &&& 3689348814741910323) + ((((x - (((x.toUInt64 >>> ((1 : Int32).toInt64.toUInt64 &&& Int64.toUInt64 63)).toInt64) &&& 6148914691236517205)).toUInt64 >>> ((2 : Int32).toInt64.toUInt64 &&& Int64.toUInt64 63)).toInt64) &&& 3689348814741910323)).toUInt64 >>> ((4 : Int32).toInt64.toUInt64 &&& Int64.toUInt64 63)).toInt64)) &&& 1085102592571150095) + (((((((x - (((x.toUInt64 >>> ((1 : Int32).toInt64.toUInt64 &&& Int64.toUInt64 63)).toInt64) &&& 6148914691236517205)) &&& 3689348814741910323) + ((((x - (((x.toUInt64 >>> ((1 : Int32).toInt64.toUInt64 &&& Int64.toUInt64 63)).toInt64) &&& 6148914691236517205)).toUInt64 >>> ((2 : Int32).toInt64.toUInt64 &&& Int64.toUInt64 63)).toInt64) &&& 3689348814741910323)) + (((((x - (((x.toUInt64 >>> ((1 : Int32).toInt64.toUInt64 &&& Int64.toUInt64 63)).toInt64) &&& 6148914691236517205)) &&& 3689348814741910323) + ((((x - (((x.toUInt64 >>> ((1 : Int32).toInt64.toUInt64 &&& Int64.toUInt64 63)).toInt64) &&& 6148914691236517205)).toUInt64 >>> ((2 : Int32).toInt64.toUInt64 &&& Int64.toUInt64 63)).toInt64) &&& 3689348814741910323)).toUInt64 >>> ((4 : Int32).toInt64.toUInt64 &&& Int64.toUInt64 63)).toInt64)) &&& 1085102592571150095).toUInt64 >>> ((8 : Int32).toInt64.toUInt64 &&& Int64.toUInt64 63)).toInt64)) + ((((((((x - (((x.toUInt64 >>> ((1 : Int32).toInt64.toUInt64 &&& Int64.toUInt64 63)).toInt64) &&& 6148914691236517205)) &&& 3689348814741910323) + ((((x - (((x.toUInt64 >>> ((1 : Int32).toInt64.toUInt64 &&& Int64.toUInt64 63)).toInt64) &&& 6148914691236517205)).toUInt64 >>> ((2 : Int32).toInt64.toUInt64 &&& Int64.toUInt64 63)).toInt64) &&& 3689348814741910323)) + (((((x - (((x.toUInt64 >>> ((1 : Int32).toInt64.toUInt64 &&& Int64.toUInt64 63)).toInt64) &&& 6148914691236517205)) &&& 3689348814741910323) + ((((x - (((x.toUInt64 >>> ((1 : Int32).toInt64.toUInt64 &&& Int64.toUInt64 63)).toInt64) &&& 6148914691236517205)).toUInt64 >>> ((2 : Int32).toInt64.toUInt64 &&& Int64.toUInt64 63)).toInt64) &&& 3689348814741910323)).toUInt64 >>> ((4 : Int32).toInt64.toUInt64 &&& Int64.toUInt64 63)).toInt64)) &&& 1085102592571150095) + (((((((x - (((x.toUInt64 >>> ((1 : Int32).toInt64.toUInt64 &&& Int64.toUInt64 63)).toInt64) &&& 6148914691236517205)) &&& 3689348814741910323) + ((((x - (((x.toUInt64 >>> ((1 : Int32).toInt64.toUInt64 &&& Int64.toUInt64 63)).toInt64) &&& 6148914691236517205)).toUInt64 >>> ((2 : Int32).toInt64.toUInt64 &&& Int64.toUInt64 63)).toInt64) &&& 3689348814741910323)) + (((((x - (((x.toUInt64 >>> ((1 : Int32).toInt64.toUInt64 &&& Int64.toUInt64 63)).toInt64) &&& 6148914691236517205)) &&& 3689348814741910323) + ((((x - (((x.toUInt64 >>> ((1 : Int32).toInt64.toUInt64 &&& Int64.toUInt64 63)).toInt64) &&& 6148914691236517205)).toUInt64 >>> ((2 : Int32).toInt64.toUInt64 &&& Int64.toUInt64 63)).toInt64) &&& 3689348814741910323)).toUInt64 >>> ((4 : Int32).toInt64.toUInt64 &&& Int64.toUInt64 63)).toInt64)) &&& 1085102592571150095).toUInt64 >>> ((8 : Int32).toInt64.toUInt64 &&& Int64.toUInt64 63)).toInt64)).toUInt64 >>> ((16 : Int32).toInt64.toUInt64 &&& Int64.toUInt64 63)).toInt64)).toUInt64 >>> ((32 : Int32).toInt64.toUInt64 &&& Int64.toUInt64 63)).toInt64)).toInt32) &&& 127)], w)) ok_j_bitCount rfl ?_
  exact aq_ei ok_j_bitCount rfl rfl rfl rfl
def in1 (i n : Int32) : Int32 := n + (i.toUInt32 >>> ((1 : Int32).toUInt32 &&& Int32.toUInt32 31)).toInt32
def in2 (i n : Int32) : Int32 := if i ≤ 4 then in1 i n else in1 (i.toUInt32 >>> ((2 : Int32).toUInt32 &&& Int32.toUInt32 31)).toInt32 (n + 2)
def in4 (i n : Int32) : Int32 := if i ≤ 16 then in2 i n else in2 (i.toUInt32 >>> ((4 : Int32).toUInt32 &&& Int32.toUInt32 31)).toInt32 (n + 4)
def in8 (i n : Int32) : Int32 := if i ≤ 256 then in4 i n else in4 (i.toUInt32 >>> ((8 : Int32).toUInt32 &&& Int32.toUInt32 31)).toInt32 (n + 8)
def in16 (i n : Int32) : Int32 := if i ≤ 65536 then in8 i n else in8 (i.toUInt32 >>> ((16 : Int32).toUInt32 &&& Int32.toUInt32 31)).toInt32 (n + 16)
def inI (x : Int32) : Int32 := if 0 < (x ^^^ (-1)) &&& (x - 1) then in16 ((x ^^^ (-1)) &&& (x - 1)) 1 else ((x ^^^ (-1)) &&& (x - 1)) &&& 32
def lnI (x : Int64) : Int32 := if x.toInt32 = 0 then 32 + inI (x.toUInt64 >>> ((32 : Int32).toInt64.toUInt64 &&& Int64.toUInt64 63)).toInt64.toInt32 else inI x.toInt32
set_option maxHeartbeats 4000000 in
theorem lp_in1 {d : Nat} {w : List va_E} (i n : Int32) : AW i_numberOfTrailingZeros d (.inl (some (.int (in1 i n)))) w (74, [some (.int i), some (.int n)], [], w) := by
  refine aq_gn (n := 5) (c1 := (79, [some (.int i), some (.int n)], [.int (n + ((i.toUInt32 >>> ((1 : Int32).toUInt32 &&& Int32.toUInt32 31)).toInt32))], w)) ok_i_numberOfTrailingZeros rfl ?_
  exact aq_ei ok_i_numberOfTrailingZeros rfl rfl rfl rfl
set_option maxHeartbeats 4000000 in
theorem lp_in2 {d : Nat} {w : List va_E} (i n : Int32) : AW i_numberOfTrailingZeros d (.inl (some (.int (in2 i n)))) w (62, [some (.int i), some (.int n)], [], w) := by
  refine aq_gn (n := 2) (c1 := (64, [some (.int i), some (.int n)], [.int 4, .int i], w)) ok_i_numberOfTrailingZeros rfl ?_
  refine aq_icmp_le ok_i_numberOfTrailingZeros rfl (fun h => ?_) (fun h => ?_)
  · rw [in2, if_pos h]
    exact lp_in1 i n
  · refine aq_gn (n := 5) (c1 := (74, [some (.int ((i.toUInt32 >>> ((2 : Int32).toUInt32 &&& Int32.toUInt32 31)).toInt32)), some (.int (n + 2))], [], w)) ok_i_numberOfTrailingZeros rfl ?_
    rw [in2, if_neg h]
    exact lp_in1 _ _
set_option maxHeartbeats 4000000 in
theorem lp_in4 {d : Nat} {w : List va_E} (i n : Int32) : AW i_numberOfTrailingZeros d (.inl (some (.int (in4 i n)))) w (49, [some (.int i), some (.int n)], [], w) := by
  refine aq_gn (n := 2) (c1 := (52, [some (.int i), some (.int n)], [.int 16, .int i], w)) ok_i_numberOfTrailingZeros rfl ?_
  refine aq_icmp_le ok_i_numberOfTrailingZeros rfl (fun h => ?_) (fun h => ?_)
  · rw [in4, if_pos h]
    exact lp_in2 i n
  · refine aq_gn (n := 5) (c1 := (62, [some (.int ((i.toUInt32 >>> ((4 : Int32).toUInt32 &&& Int32.toUInt32 31)).toInt32)), some (.int (n + 4))], [], w)) ok_i_numberOfTrailingZeros rfl ?_
    rw [in4, if_neg h]
    exact lp_in2 _ _
set_option maxHeartbeats 4000000 in
theorem lp_in8 {d : Nat} {w : List va_E} (i n : Int32) : AW i_numberOfTrailingZeros d (.inl (some (.int (in8 i n)))) w (34, [some (.int i), some (.int n)], [], w) := by
  refine aq_gn (n := 2) (c1 := (38, [some (.int i), some (.int n)], [.int 256, .int i], w)) ok_i_numberOfTrailingZeros rfl ?_
  refine aq_icmp_le ok_i_numberOfTrailingZeros rfl (fun h => ?_) (fun h => ?_)
  · rw [in8, if_pos h]
    exact lp_in4 i n
  · refine aq_gn (n := 5) (c1 := (49, [some (.int ((i.toUInt32 >>> ((8 : Int32).toUInt32 &&& Int32.toUInt32 31)).toInt32)), some (.int (n + 8))], [], w)) ok_i_numberOfTrailingZeros rfl ?_
    rw [in8, if_neg h]
    exact lp_in4 _ _
set_option maxHeartbeats 4000000 in
theorem lp_in16 {d : Nat} {w : List va_E} (i n : Int32) : AW i_numberOfTrailingZeros d (.inl (some (.int (in16 i n)))) w (19, [some (.int i), some (.int n)], [], w) := by
  refine aq_gn (n := 2) (c1 := (23, [some (.int i), some (.int n)], [.int 65536, .int i], w)) ok_i_numberOfTrailingZeros rfl ?_
  refine aq_icmp_le ok_i_numberOfTrailingZeros rfl (fun h => ?_) (fun h => ?_)
  · rw [in16, if_pos h]
    exact lp_in8 i n
  · refine aq_gn (n := 5) (c1 := (34, [some (.int ((i.toUInt32 >>> ((16 : Int32).toUInt32 &&& Int32.toUInt32 31)).toInt32)), some (.int (n + 16))], [], w)) ok_i_numberOfTrailingZeros rfl ?_
    rw [in16, if_neg h]
    exact lp_in8 _ _
set_option maxHeartbeats 4000000 in
theorem am_intNtz {d : Nat} {w : List va_E} (x : Int32) : AM i_numberOfTrailingZeros d (.inl (some (.int (inI x)))) [.int x] w w := by
  refine aq_enter pl_i_numberOfTrailingZeros (Nat.le_of_ble_eq_true rfl) ?_
  refine aq_gn (n := 9) (c1 := (9, [some (.int ((x ^^^ (-1)) &&& (x - 1))), none], [.int ((x ^^^ (-1)) &&& (x - 1))], w)) ok_i_numberOfTrailingZeros rfl ?_
  refine aq_if_gt ok_i_numberOfTrailingZeros rfl (fun h => ?_) (fun h => ?_)
  · refine aq_gn (n := 2) (c1 := (19, [some (.int ((x ^^^ (-1)) &&& (x - 1))), some (.int 1)], [], w)) ok_i_numberOfTrailingZeros rfl ?_
    rw [inI, if_pos h]
    exact lp_in16 _ _
  · refine aq_gn (n := 3) (c1 := (16, [some (.int ((x ^^^ (-1)) &&& (x - 1))), none], [.int (((x ^^^ (-1)) &&& (x - 1)) &&& 32)], w)) ok_i_numberOfTrailingZeros rfl ?_
    exact aq_ei ok_i_numberOfTrailingZeros rfl rfl (by rw [inI, if_neg h]) rfl
set_option maxHeartbeats 4000000 in
theorem am_longNtz {d : Nat} {w : List va_E} (x : Int64) : AM j_numberOfTrailingZeros (d + 1) (.inl (some (.int (lnI x)))) [.long x] w w := by
  refine aq_enter pl_j_numberOfTrailingZeros (Nat.le_of_ble_eq_true rfl) ?_
  refine aq_gn (n := 4) (c1 := (4, [some (.long x), none, some (.int x.toInt32)], [.int x.toInt32], w)) ok_j_numberOfTrailingZeros rfl ?_
  refine aq_if_ne ok_j_numberOfTrailingZeros rfl (fun h => ?_) (fun h => ?_)
  · refine aq_gn (n := 1) (c1 := (22, [some (.long x), none, some (.int x.toInt32)], [.int x.toInt32], w)) ok_j_numberOfTrailingZeros rfl ?_
    refine aq_callS (as := [.int x.toInt32]) (st := []) ok_j_numberOfTrailingZeros rfl c2_i_numberOfTrailingZeros (am_intNtz _) rfl (Nat.le_of_ble_eq_true rfl) ?_
    exact aq_ei ok_j_numberOfTrailingZeros rfl rfl (by rw [lnI, if_neg h]) rfl
  · refine aq_gn (n := 5) (c1 := (14, [some (.long x), none, some (.int x.toInt32)], [.int (((x.toUInt64 >>> ((32 : Int32).toInt64.toUInt64 &&& Int64.toUInt64 63)).toInt64).toInt32), .int 32], w)) ok_j_numberOfTrailingZeros rfl ?_
    refine aq_callS (as := [.int (((x.toUInt64 >>> ((32 : Int32).toInt64.toUInt64 &&& Int64.toUInt64 63)).toInt64).toInt32)]) (st := [.int 32]) ok_j_numberOfTrailingZeros rfl c2_i_numberOfTrailingZeros (am_intNtz _) rfl (Nat.le_of_ble_eq_true rfl) ?_
    refine aq_gn (n := 2) (c1 := (25, [some (.long x), none, some (.int x.toInt32)], [.int (32 + (inI (x.toUInt64 >>> ((32 : Int32).toInt64.toUInt64 &&& Int64.toUInt64 63)).toInt64.toInt32))], w)) ok_j_numberOfTrailingZeros rfl ?_
    exact aq_ei ok_j_numberOfTrailingZeros rfl rfl (by rw [lnI, if_pos h]) rfl
set_option maxHeartbeats 4000000 in
theorem am_many {d : Nat} {S : LSt} {o : Nat} {b : Bool} (hS : WF S) (ho : o < 85) : AM m_many (d + 1) (.inl (some (.int (if b then nI (cnt (fun i => decide (s_aw S (s_la S i) = some o)) (s_k S) 0 0) else bcI (ao (s_ha S) o))))) [.ref 0, .int (nI o), .int (bI b)] (wS S) (wS S) := by
  refine aq_enter pl_m_many (Nat.le_of_ble_eq_true rfl) ?_
  refine aq_gn (n := 1) (c1 := (1, [some (.ref 0), some (.int (nI o)), some (.int (bI b))], [.int (nI o)], wS S)) ok_m_many rfl ?_
  refine aq_callS (as := [.int (nI o)]) (st := []) ok_m_many rfl c0_m_checkObject (am_chkO ho) rfl (Nat.le_of_ble_eq_true rfl) ?_
  refine aq_gn (n := 1) (c1 := (5, [some (.ref 0), some (.int (nI o)), some (.int (bI b))], [.int (bI b)], wS S)) ok_m_many rfl ?_
  refine aq_if_eq ok_m_many rfl (fun h => ?_) (fun h => ?_)
  · have hb := (bI_0 _).mp h
    subst hb
    refine aq_gn (n := 2) (c1 := (18, [some (.ref 0), some (.int (nI o)), some (.int (bI false))], [.int (nI o), .ref 0], wS S)) ok_m_many rfl ?_
    refine aq_callV (as := [.int (nI o)]) (st := []) ok_m_many rfl c0_m_allHolders (am_allHolders ho) rfl (Nat.le_of_ble_eq_true rfl) rfl rfl rfl ?_
    refine aq_callS (as := [.long (ao (s_ha S) o)]) (st := []) ok_m_many rfl c0_j_bitCount (am_bitCount (ao (s_ha S) o)) rfl (Nat.le_of_ble_eq_true rfl) ?_
    exact aq_ei ok_m_many rfl rfl rfl rfl
  · have hb : b = true := by cases b with | true => rfl | false => exact absurd rfl h
    subst hb
    refine aq_gn (n := 2) (c1 := (10, [some (.ref 0), some (.int (nI o)), some (.int (bI true))], [.int (nI o), .ref 0], wS S)) ok_m_many rfl ?_
    refine aq_callV (as := [.int (nI o)]) (st := []) ok_m_many rfl c0_m_queueLength (am_queueLength ho hS.2.1 hS.1 hS.2.2.2.1) rfl (Nat.le_of_ble_eq_true rfl) rfl rfl rfl ?_
    refine aq_gn (n := 1) (c1 := (24, [some (.ref 0), some (.int (nI o)), some (.int (bI true))], [.int (nI (cnt (fun i => decide (s_aw S (s_la S i) = some o)) (s_k S) 0 0))], wS S)) ok_m_many rfl ?_
    exact aq_ei ok_m_many rfl rfl rfl rfl
set_option maxHeartbeats 4000000 in
theorem am_many_o {d : Nat} {S : LSt} {y z : Int32} (hx : y < 0 ∨ nI 85 ≤ y) : AM m_many (d + 1) (.inr 0) [.ref 0, .int y, .int z] (wS S) (wS S) := by
  refine aq_enter pl_m_many (Nat.le_of_ble_eq_true rfl) ?_
  refine aq_gn (n := 1) (c1 := (1, [some (.ref 0), some (.int y), some (.int z)], [.int y], wS S)) ok_m_many rfl ?_
  exact aq_callST (as := [.int y]) (st := []) ok_m_many rfl c0_m_checkObject (am_chkO_x hx) rfl (Nat.le_of_ble_eq_true rfl)
theorem nI_tb (x : Int32) : nI x.toBitVec.toNat = x := by
  apply Int32.toBitVec_inj.mp
  unfold nI
  simp
def tz (x : Int64) : Nat := (lnI x).toBitVec.toNat
def hcF (ha : Nat → Int64) (o : Nat) : Nat → Nat → Bool
  | 0, _ => false
  | f + 1, m => if ¬ ha (o * 5 + m) = 0 ∧ ¬ ow ha (tz (ha (o * 5 + m))) o (nI m) = 0 then true else hcF ha o f (m + 1)
def ayF (S : LSt) : Nat → Nat → Nat → Nat
  | 0, _, a => a
  | f + 1, o, a => ayF S f (o + 1) (if hcF (s_ha S) o 5 0 = true ∨ ¬ s_ftg S o = none then a + 1 else a)
set_option maxHeartbeats 4000000 in
theorem lp_clash {d : Nat} {st pr : Nat → Nat} {aw wa : Nat → Option Nat} {ha : Nat → Int64} {la : Nat → Nat} {wr : Nat → Int64} {n k c5 c6 c7 : Nat} {o : Nat} (ho : o < 85) : ∀ (f i : Nat), i + f = 5 → AW m_holdersClash (d + 3) (.inl (some (.int (bI (hcF ha o f i))))) (wL st pr aw wa ha la wr n k c5 c6 c7) (2, [some (.ref 0), some (.int (nI o)), some (.int (nI i)), none, none], [], wL st pr aw wa ha la wr n k c5 c6 c7) := by
  intro f
  induction f with
  | zero =>
    intro i hif 
    refine aq_gn (n := 2) (c1 := (4, [some (.ref 0), some (.int (nI o)), some (.int (nI i)), none, none], [.int (nI 5), .int (nI i)], wL st pr aw wa ha la wr n k c5 c6 c7)) ok_m_holdersClash rfl ?_
    refine aq_icmp_ge ok_m_holdersClash rfl (fun h => ?_) (fun h => ?_)
    · refine aq_gn (n := 1) (c1 := (48, [some (.ref 0), some (.int (nI o)), some (.int (nI i)), none, none], [.int (nI 0)], wL st pr aw wa ha la wr n k c5 c6 c7)) ok_m_holdersClash rfl ?_
      exact aq_ez ok_m_holdersClash rfl rfl rfl rfl
    · exact absurd (nI_le (show 5 ≤ i by omega) (by omega)) h
  | succ f ih =>
    intro i hif 
    refine aq_gn (n := 2) (c1 := (4, [some (.ref 0), some (.int (nI o)), some (.int (nI i)), none, none], [.int (nI 5), .int (nI i)], wL st pr aw wa ha la wr n k c5 c6 c7)) ok_m_holdersClash rfl ?_
    refine aq_icmp_ge ok_m_holdersClash rfl (fun h => ?_) (fun h => ?_)
    · exact absurd (q_le h (by omega) (by omega)) (by omega)
    · refine aq_go (n := 12) (c1 := (21, [some (.ref 0), some (.int (nI o)), some (.int (nI i)), some (.long (ha (((nI o) * (nI 5)) + (nI i)).toNatClampNeg)), none], [.int (lg_cmp (ha (((nI o) * (nI 5)) + (nI i)).toNatClampNeg) 0)], wL st pr aw wa ha la wr n k c5 c6 c7)) (P := vp_in (((nI o) * (nI 5)) + (nI i)) 425) ok_m_holdersClash rfl (in5 ho (by omega)) ?_
      rw [cl5 ho (show i < 5 by omega)]
      refine aq_if_eq ok_m_holdersClash rfl (fun h2 => ?_) (fun h2 => ?_)
      · have hb := (lg_cmp_0 _ _).mp h2
        refine aq_gn (n := 2) (c1 := (2, [some (.ref 0), some (.int (nI o)), some (.int ((nI i) + 1)), some (.long (ha (o * 5 + i))), none], [], wL st pr aw wa ha la wr n k c5 c6 c7)) ok_m_holdersClash rfl ?_
        rw [nI_1]
        have e : hcF ha o (f + 1) i = hcF ha o f (i + 1) := by rw [hcF, if_neg (by simp [hb])]
        rw [e]
        refine aq_drop 3 ?_
        exact ih (i + 1) (by omega)
      · have hb : ¬ ha (o * 5 + i) = 0 := fun q => h2 ((lg_cmp_0 _ _).mpr q)
        refine aq_gn (n := 2) (c1 := (26, [some (.ref 0), some (.int (nI o)), some (.int (nI i)), some (.long (ha (o * 5 + i))), none], [.long (ha (o * 5 + i)), .ref 0], wL st pr aw wa ha la wr n k c5 c6 c7)) ok_m_holdersClash rfl ?_
        refine aq_callS (as := [.long (ha (o * 5 + i))]) (st := [.ref 0]) ok_m_holdersClash rfl c0_j_numberOfTrailingZeros (am_longNtz (ha (o * 5 + i))) rfl (Nat.le_of_ble_eq_true rfl) ?_
        rw [← nI_tb (lnI (ha (o * 5 + i)))]
        show AW m_holdersClash _ _ _ (29, [some (.ref 0), some (.int (nI o)), some (.int (nI i)), some (.long (ha (o * 5 + i))), none], [.int (nI (tz (ha (o * 5 + i)))), .ref 0], wL st pr aw wa ha la wr n k c5 c6 c7)
        refine aq_gn (n := 2) (c1 := (31, [some (.ref 0), some (.int (nI o)), some (.int (nI i)), some (.long (ha (o * 5 + i))), none], [.int (nI i), .int (nI o), .int (nI (tz (ha (o * 5 + i)))), .ref 0], wL st pr aw wa ha la wr n k c5 c6 c7)) ok_m_holdersClash rfl ?_
        refine aq_callV (as := [.int (nI (tz (ha (o * 5 + i)))), .int (nI o), .int (nI i)]) (st := []) ok_m_holdersClash rfl c0_m_othersInTheWay (am_others (d := d + 1) ho) rfl (Nat.le_of_ble_eq_true rfl) rfl rfl rfl ?_
        refine aq_gn (n := 2) (c1 := (36, [some (.ref 0), some (.int (nI o)), some (.int (nI i)), some (.long (ha (o * 5 + i))), none], [.int (lg_cmp (ow ha (tz (ha (o * 5 + i))) o (nI i)) 0)], wL st pr aw wa ha la wr n k c5 c6 c7)) ok_m_holdersClash rfl ?_
        refine aq_if_eq ok_m_holdersClash rfl (fun h3 => ?_) (fun h3 => ?_)
        · have hc := (lg_cmp_0 _ _).mp h3
          refine aq_gn (n := 2) (c1 := (2, [some (.ref 0), some (.int (nI o)), some (.int ((nI i) + 1)), some (.long (ha (o * 5 + i))), none], [], wL st pr aw wa ha la wr n k c5 c6 c7)) ok_m_holdersClash rfl ?_
          rw [nI_1]
          have e : hcF ha o (f + 1) i = hcF ha o f (i + 1) := by rw [hcF, if_neg (by simp [hc])]
          rw [e]
          refine aq_drop 3 ?_
          exact ih (i + 1) (by omega)
        · have hc : ¬ ow ha (tz (ha (o * 5 + i))) o (nI i) = 0 := fun q => h3 ((lg_cmp_0 _ _).mpr q)
          refine aq_gn (n := 1) (c1 := (40, [some (.ref 0), some (.int (nI o)), some (.int (nI i)), some (.long (ha (o * 5 + i))), none], [.int (nI 1)], wL st pr aw wa ha la wr n k c5 c6 c7)) ok_m_holdersClash rfl ?_
          exact aq_ez ok_m_holdersClash rfl rfl (by rw [hcF, if_pos ⟨hb, hc⟩]; rfl) rfl
set_option maxHeartbeats 4000000 in
theorem am_clash {d : Nat} {st pr : Nat → Nat} {aw wa : Nat → Option Nat} {ha : Nat → Int64} {la : Nat → Nat} {wr : Nat → Int64} {n k c5 c6 c7 : Nat} {o : Nat} (ho : o < 85) : AM m_holdersClash (d + 3) (.inl (some (.int (bI (hcF ha o 5 0))))) [.ref 0, .int (nI o)] (wL st pr aw wa ha la wr n k c5 c6 c7) (wL st pr aw wa ha la wr n k c5 c6 c7) := by
  refine aq_enter pl_m_holdersClash (Nat.le_of_ble_eq_true rfl) ?_
  refine aq_gn (n := 2) (c1 := (2, [some (.ref 0), some (.int (nI o)), some (.int (nI 0)), none, none], [], wL st pr aw wa ha la wr n k c5 c6 c7)) ok_m_holdersClash rfl ?_
  exact lp_clash ho 5 0 rfl
set_option maxHeartbeats 4000000 in
theorem am_clashS {d : Nat} {S : LSt} {o : Nat} (ho : o < 85) : AM m_holdersClash (d + 3) (.inl (some (.int (bI (hcF (s_ha S) o 5 0))))) [.ref 0, .int (nI o)] (wS S) (wS S) := am_clash ho
set_option maxHeartbeats 4000000 in
theorem lp_astray {d : Nat} {S : LSt} (hS : WF S) : ∀ (f i : Nat), i + f = 85 → ∀ a : Nat,  AW m_astray (d + 4) (.inl (some (.int (nI (ayF S f i a))))) (wS S) (4, [some (.ref 0), some (.int (nI a)), some (.int (nI i))], [], wS S) := by
  intro f
  induction f with
  | zero =>
    intro i hif a
    refine aq_gn (n := 2) (c1 := (7, [some (.ref 0), some (.int (nI a)), some (.int (nI i))], [.int (nI 85), .int (nI i)], wS S)) ok_m_astray rfl ?_
    refine aq_icmp_ge ok_m_astray rfl (fun h => ?_) (fun h => ?_)
    · refine aq_gn (n := 1) (c1 := (37, [some (.ref 0), some (.int (nI a)), some (.int (nI i))], [.int (nI a)], wS S)) ok_m_astray rfl ?_
      exact aq_ei ok_m_astray rfl rfl rfl rfl
    · exact absurd (nI_le (show 85 ≤ i by omega) (by omega)) h
  | succ f ih =>
    intro i hif a
    refine aq_gn (n := 2) (c1 := (7, [some (.ref 0), some (.int (nI a)), some (.int (nI i))], [.int (nI 85), .int (nI i)], wS S)) ok_m_astray rfl ?_
    refine aq_icmp_ge ok_m_astray rfl (fun h => ?_) (fun h => ?_)
    · exact absurd (q_le h (by omega) (by omega)) (by omega)
    · refine aq_gn (n := 2) (c1 := (12, [some (.ref 0), some (.int (nI a)), some (.int (nI i))], [.int (nI i), .ref 0], wS S)) ok_m_astray rfl ?_
      refine aq_callV (as := [.int (nI i)]) (st := []) ok_m_astray rfl c0_m_holdersClash (am_clashS (show i < 85 by omega)) rfl (Nat.le_of_ble_eq_true rfl) rfl rfl rfl ?_
      refine aq_if_ne ok_m_astray rfl (fun h2 => ?_) (fun h2 => ?_)
      · have hc : hcF (s_ha S) i 5 0 = true := by cases hy : hcF (s_ha S) i 5 0 with | true => rfl | false => exact absurd ((bI_0 _).mpr hy) h2
        refine aq_gn (n := 3) (c1 := (4, [some (.ref 0), some (.int ((nI a) + 1)), some (.int ((nI i) + 1))], [], wS S)) ok_m_astray rfl ?_
        rw [nI_1, nI_1]
        have e : ayF S (f + 1) i a = ayF S f (i + 1) (a + 1) := by rw [ayF, if_pos (Or.inl hc)]
        rw [e]
        exact ih (i + 1) (by omega) (a + 1)
      · have hb := (bI_0 _).mp h2
        refine aq_gn (n := 2) (c1 := (20, [some (.ref 0), some (.int (nI a)), some (.int (nI i))], [.int (nI i), .ref 0], wS S)) ok_m_astray rfl ?_
        refine aq_callV (as := [.int (nI i)]) (st := []) ok_m_astray rfl c0_m_firstToGrant (am_firstS (d := d + 1) hS (show i < 85 by omega)) rfl (Nat.le_of_ble_eq_true rfl) rfl rfl rfl ?_
        refine aq_gn (n := 1) (c1 := (24, [some (.ref 0), some (.int (nI a)), some (.int (nI i))], [.int (-1), .int (oI (s_ftg S i))], wS S)) ok_m_astray rfl ?_
        refine aq_icmp_eq ok_m_astray rfl (fun h3 => ?_) (fun h3 => ?_)
        · have hx := oI_m1 h3 (fun x q => by obtain ⟨-, ⟨j, -, e⟩, -⟩ := ftg_in q; have := hS.1 j; omega)
          refine aq_gn (n := 2) (c1 := (4, [some (.ref 0), some (.int (nI a)), some (.int ((nI i) + 1))], [], wS S)) ok_m_astray rfl ?_
          rw [nI_1]
          have e : ayF S (f + 1) i a = ayF S f (i + 1) a := by rw [ayF, if_neg (fun q => q.elim (fun q => by rw [hb] at q; cases q) (fun q => q hx))]
          rw [e]
          exact ih (i + 1) (by omega) a
        · obtain ⟨y, hx⟩ := oI_nm1 h3
          refine aq_gn (n := 3) (c1 := (4, [some (.ref 0), some (.int ((nI a) + 1)), some (.int ((nI i) + 1))], [], wS S)) ok_m_astray rfl ?_
          rw [nI_1, nI_1]
          have e : ayF S (f + 1) i a = ayF S f (i + 1) (a + 1) := by rw [ayF, if_pos (Or.inr (by rw [hx]; exact fun q => by cases q))]
          rw [e]
          exact ih (i + 1) (by omega) (a + 1)
set_option maxHeartbeats 4000000 in
theorem am_astray {d : Nat} {S : LSt} (hS : WF S) : AM m_astray (d + 4) (.inl (some (.int (nI (ayF S 85 0 0))))) [.ref 0] (wS S) (wS S) := by
  refine aq_enter pl_m_astray (Nat.le_of_ble_eq_true rfl) ?_
  refine aq_gn (n := 4) (c1 := (4, [some (.ref 0), some (.int (nI 0)), some (.int (nI 0))], [], wS S)) ok_m_astray rfl ?_
  exact lp_astray hS 85 0 rfl 0
