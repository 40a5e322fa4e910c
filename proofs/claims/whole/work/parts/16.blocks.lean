theorem pb_bk_0 : (List.range 21).all (fun k => pb_mok (0 + k)) = true := by decide +kernel
theorem pb_bk_21 : (List.range 17).all (fun k => pb_mok (21 + k)) = true := by decide +kernel
theorem pb_bk_38 : (List.range 19).all (fun k => pb_mok (38 + k)) = true := by decide +kernel
theorem pb_bk_57 : (List.range 17).all (fun k => pb_mok (57 + k)) = true := by decide +kernel
theorem pb_bk_74 : (List.range 15).all (fun k => pb_mok (74 + k)) = true := by decide +kernel
theorem pb_bk_89 : (List.range 11).all (fun k => pb_mok (89 + k)) = true := by decide +kernel
theorem pb_bk_100 : (List.range 18).all (fun k => pb_mok (100 + k)) = true := by decide +kernel
theorem pb_bk_118 : (List.range 21).all (fun k => pb_mok (118 + k)) = true := by decide +kernel
theorem pb_bk_139 : (List.range 25).all (fun k => pb_mok (139 + k)) = true := by decide +kernel
theorem pb_bk_164 : (List.range 19).all (fun k => pb_mok (164 + k)) = true := by decide +kernel
theorem pb_bk_183 : (List.range 11).all (fun k => pb_mok (183 + k)) = true := by decide +kernel
theorem pb_bk_194 : (List.range 20).all (fun k => pb_mok (194 + k)) = true := by decide +kernel
theorem pb_bk_214 : (List.range 18).all (fun k => pb_mok (214 + k)) = true := by decide +kernel
theorem pb_bk_232 : (List.range 15).all (fun k => pb_mok (232 + k)) = true := by decide +kernel
theorem pb_bk_247 : (List.range 19).all (fun k => pb_mok (247 + k)) = true := by decide +kernel
theorem pb_bk_266 : (List.range 13).all (fun k => pb_mok (266 + k)) = true := by decide +kernel
theorem pb_bk_279 : (List.range 15).all (fun k => pb_mok (279 + k)) = true := by decide +kernel
theorem pb_bk_294 : (List.range 13).all (fun k => pb_mok (294 + k)) = true := by decide +kernel
theorem pb_mok_all {mi : Nat} (h : mi < 307) : pb_mok mi = true := by
  rcases Nat.lt_or_ge mi 21 with q | q
  · have h1 := List.all_eq_true.mp pb_bk_0 (mi - 0) (List.mem_range.mpr (by omega))
    rwa [show 0 + (mi - 0) = mi by omega] at h1
  rcases Nat.lt_or_ge mi 38 with q | q
  · have h1 := List.all_eq_true.mp pb_bk_21 (mi - 21) (List.mem_range.mpr (by omega))
    rwa [show 21 + (mi - 21) = mi by omega] at h1
  rcases Nat.lt_or_ge mi 57 with q | q
  · have h1 := List.all_eq_true.mp pb_bk_38 (mi - 38) (List.mem_range.mpr (by omega))
    rwa [show 38 + (mi - 38) = mi by omega] at h1
  rcases Nat.lt_or_ge mi 74 with q | q
  · have h1 := List.all_eq_true.mp pb_bk_57 (mi - 57) (List.mem_range.mpr (by omega))
    rwa [show 57 + (mi - 57) = mi by omega] at h1
  rcases Nat.lt_or_ge mi 89 with q | q
  · have h1 := List.all_eq_true.mp pb_bk_74 (mi - 74) (List.mem_range.mpr (by omega))
    rwa [show 74 + (mi - 74) = mi by omega] at h1
  rcases Nat.lt_or_ge mi 100 with q | q
  · have h1 := List.all_eq_true.mp pb_bk_89 (mi - 89) (List.mem_range.mpr (by omega))
    rwa [show 89 + (mi - 89) = mi by omega] at h1
  rcases Nat.lt_or_ge mi 118 with q | q
  · have h1 := List.all_eq_true.mp pb_bk_100 (mi - 100) (List.mem_range.mpr (by omega))
    rwa [show 100 + (mi - 100) = mi by omega] at h1
  rcases Nat.lt_or_ge mi 139 with q | q
  · have h1 := List.all_eq_true.mp pb_bk_118 (mi - 118) (List.mem_range.mpr (by omega))
    rwa [show 118 + (mi - 118) = mi by omega] at h1
  rcases Nat.lt_or_ge mi 164 with q | q
  · have h1 := List.all_eq_true.mp pb_bk_139 (mi - 139) (List.mem_range.mpr (by omega))
    rwa [show 139 + (mi - 139) = mi by omega] at h1
  rcases Nat.lt_or_ge mi 183 with q | q
  · have h1 := List.all_eq_true.mp pb_bk_164 (mi - 164) (List.mem_range.mpr (by omega))
    rwa [show 164 + (mi - 164) = mi by omega] at h1
  rcases Nat.lt_or_ge mi 194 with q | q
  · have h1 := List.all_eq_true.mp pb_bk_183 (mi - 183) (List.mem_range.mpr (by omega))
    rwa [show 183 + (mi - 183) = mi by omega] at h1
  rcases Nat.lt_or_ge mi 214 with q | q
  · have h1 := List.all_eq_true.mp pb_bk_194 (mi - 194) (List.mem_range.mpr (by omega))
    rwa [show 194 + (mi - 194) = mi by omega] at h1
  rcases Nat.lt_or_ge mi 232 with q | q
  · have h1 := List.all_eq_true.mp pb_bk_214 (mi - 214) (List.mem_range.mpr (by omega))
    rwa [show 214 + (mi - 214) = mi by omega] at h1
  rcases Nat.lt_or_ge mi 247 with q | q
  · have h1 := List.all_eq_true.mp pb_bk_232 (mi - 232) (List.mem_range.mpr (by omega))
    rwa [show 232 + (mi - 232) = mi by omega] at h1
  rcases Nat.lt_or_ge mi 266 with q | q
  · have h1 := List.all_eq_true.mp pb_bk_247 (mi - 247) (List.mem_range.mpr (by omega))
    rwa [show 247 + (mi - 247) = mi by omega] at h1
  rcases Nat.lt_or_ge mi 279 with q | q
  · have h1 := List.all_eq_true.mp pb_bk_266 (mi - 266) (List.mem_range.mpr (by omega))
    rwa [show 266 + (mi - 266) = mi by omega] at h1
  rcases Nat.lt_or_ge mi 294 with q | q
  · have h1 := List.all_eq_true.mp pb_bk_279 (mi - 279) (List.mem_range.mpr (by omega))
    rwa [show 279 + (mi - 279) = mi by omega] at h1
  have h1 := List.all_eq_true.mp pb_bk_294 (mi - 294) (List.mem_range.mpr (by omega))
  rwa [show 294 + (mi - 294) = mi by omega] at h1
