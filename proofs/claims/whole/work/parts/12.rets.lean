theorem pb_rr_0 : (List.range 31).all (fun k => (pb_CODE (0 + k)).all (fun q => q.2.all (fun el => pb_rk (pb_rt (0 + k)) el.1))) = true := by decide +kernel
theorem pb_rr_31 : (List.range 31).all (fun k => (pb_CODE (31 + k)).all (fun q => q.2.all (fun el => pb_rk (pb_rt (31 + k)) el.1))) = true := by decide +kernel
theorem pb_rr_62 : (List.range 31).all (fun k => (pb_CODE (62 + k)).all (fun q => q.2.all (fun el => pb_rk (pb_rt (62 + k)) el.1))) = true := by decide +kernel
theorem pb_rr_93 : (List.range 31).all (fun k => (pb_CODE (93 + k)).all (fun q => q.2.all (fun el => pb_rk (pb_rt (93 + k)) el.1))) = true := by decide +kernel
theorem pb_rr_124 : (List.range 31).all (fun k => (pb_CODE (124 + k)).all (fun q => q.2.all (fun el => pb_rk (pb_rt (124 + k)) el.1))) = true := by decide +kernel
theorem pb_rr_155 : (List.range 31).all (fun k => (pb_CODE (155 + k)).all (fun q => q.2.all (fun el => pb_rk (pb_rt (155 + k)) el.1))) = true := by decide +kernel
theorem pb_rr_186 : (List.range 31).all (fun k => (pb_CODE (186 + k)).all (fun q => q.2.all (fun el => pb_rk (pb_rt (186 + k)) el.1))) = true := by decide +kernel
theorem pb_rr_217 : (List.range 31).all (fun k => (pb_CODE (217 + k)).all (fun q => q.2.all (fun el => pb_rk (pb_rt (217 + k)) el.1))) = true := by decide +kernel
theorem pb_rr_248 : (List.range 31).all (fun k => (pb_CODE (248 + k)).all (fun q => q.2.all (fun el => pb_rk (pb_rt (248 + k)) el.1))) = true := by decide +kernel
theorem pb_rr_279 : (List.range 28).all (fun k => (pb_CODE (279 + k)).all (fun q => q.2.all (fun el => pb_rk (pb_rt (279 + k)) el.1))) = true := by decide +kernel
theorem pb_rr_all {mi : Nat} (h : mi < 307) : (pb_CODE mi).all (fun q => q.2.all (fun el => pb_rk (pb_rt mi) el.1)) = true := by
  rcases Nat.lt_or_ge mi 31 with q | q
  · have h1 := List.all_eq_true.mp pb_rr_0 (mi - 0) (List.mem_range.mpr (by omega))
    rwa [show 0 + (mi - 0) = mi by omega] at h1
  rcases Nat.lt_or_ge mi 62 with q | q
  · have h1 := List.all_eq_true.mp pb_rr_31 (mi - 31) (List.mem_range.mpr (by omega))
    rwa [show 31 + (mi - 31) = mi by omega] at h1
  rcases Nat.lt_or_ge mi 93 with q | q
  · have h1 := List.all_eq_true.mp pb_rr_62 (mi - 62) (List.mem_range.mpr (by omega))
    rwa [show 62 + (mi - 62) = mi by omega] at h1
  rcases Nat.lt_or_ge mi 124 with q | q
  · have h1 := List.all_eq_true.mp pb_rr_93 (mi - 93) (List.mem_range.mpr (by omega))
    rwa [show 93 + (mi - 93) = mi by omega] at h1
  rcases Nat.lt_or_ge mi 155 with q | q
  · have h1 := List.all_eq_true.mp pb_rr_124 (mi - 124) (List.mem_range.mpr (by omega))
    rwa [show 124 + (mi - 124) = mi by omega] at h1
  rcases Nat.lt_or_ge mi 186 with q | q
  · have h1 := List.all_eq_true.mp pb_rr_155 (mi - 155) (List.mem_range.mpr (by omega))
    rwa [show 155 + (mi - 155) = mi by omega] at h1
  rcases Nat.lt_or_ge mi 217 with q | q
  · have h1 := List.all_eq_true.mp pb_rr_186 (mi - 186) (List.mem_range.mpr (by omega))
    rwa [show 186 + (mi - 186) = mi by omega] at h1
  rcases Nat.lt_or_ge mi 248 with q | q
  · have h1 := List.all_eq_true.mp pb_rr_217 (mi - 217) (List.mem_range.mpr (by omega))
    rwa [show 217 + (mi - 217) = mi by omega] at h1
  rcases Nat.lt_or_ge mi 279 with q | q
  · have h1 := List.all_eq_true.mp pb_rr_248 (mi - 248) (List.mem_range.mpr (by omega))
    rwa [show 248 + (mi - 248) = mi by omega] at h1
  have h1 := List.all_eq_true.mp pb_rr_279 (mi - 279) (List.mem_range.mpr (by omega))
  rwa [show 279 + (mi - 279) = mi by omega] at h1
theorem pb_rr_law : (pb_CODE 307).all (fun q => q.2.all (fun el => pb_rk (pb_rt 307) el.1)) = true := by decide +kernel
theorem pb_lb_0 : pb_bok 12 false code 0 kb_307_0 = true := by decide +kernel
theorem pb_lb_18 : pb_bok 12 false code 18 kb_307_18 = true := by decide +kernel
theorem pb_lb_208 : pb_bok 12 false code 208 kb_307_208 = true := by decide +kernel
theorem pb_lb_271 : pb_bok 12 false code 271 kb_307_271 = true := by decide +kernel
theorem pb_lb_294 : pb_bok 12 false code 294 kb_307_294 = true := by decide +kernel
theorem pb_lb_327 : pb_bok 12 false code 327 kb_307_327 = true := by decide +kernel
theorem pb_lb_350 : pb_bok 12 false code 350 kb_307_350 = true := by decide +kernel
theorem pb_lb_383 : pb_bok 12 false code 383 kb_307_383 = true := by decide +kernel
theorem pb_lb_426 : pb_bok 12 false code 426 kb_307_426 = true := by decide +kernel
theorem pb_lb_459 : pb_bok 12 false code 459 kb_307_459 = true := by decide +kernel
theorem pb_lb_512 : pb_bok 12 false code 512 kb_307_512 = true := by decide +kernel
theorem pb_lb_545 : pb_bok 12 false code 545 kb_307_545 = true := by decide +kernel
theorem pb_lb_568 : pb_bok 12 false code 568 kb_307_568 = true := by decide +kernel
theorem pb_lb_569 : pb_bok 12 false code 569 kb_307_569 = true := by decide +kernel
theorem pb_lb_595 : pb_bok 12 false code 595 kb_307_595 = true := by decide +kernel
theorem pb_lb_596 : pb_bok 12 false code 596 kb_307_596 = true := by decide +kernel
theorem pb_lb_604 : pb_bok 12 false code 604 kb_307_604 = true := by decide +kernel
theorem pb_lb_627 : pb_bok 12 false code 627 kb_307_627 = true := by decide +kernel
theorem pb_lb_628 : pb_bok 12 false code 628 kb_307_628 = true := by decide +kernel
theorem pb_lb_654 : pb_bok 12 false code 654 kb_307_654 = true := by decide +kernel
theorem pb_lb_655 : pb_bok 12 false code 655 kb_307_655 = true := by decide +kernel
theorem pb_lb_663 : pb_bok 12 false code 663 kb_307_663 = true := by decide +kernel
theorem pb_lb_686 : pb_bok 12 false code 686 kb_307_686 = true := by decide +kernel
theorem pb_lb_687 : pb_bok 12 false code 687 kb_307_687 = true := by decide +kernel
theorem pb_lb_713 : pb_bok 12 false code 713 kb_307_713 = true := by decide +kernel
theorem pb_lb_714 : pb_bok 12 false code 714 kb_307_714 = true := by decide +kernel
theorem pb_lb_723 : pb_bok 12 false code 723 kb_307_723 = true := by decide +kernel
theorem pb_lb_741 : pb_bok 12 false code 741 kb_307_741 = true := by decide +kernel
theorem pb_lb_742 : pb_bok 12 false code 742 kb_307_742 = true := by decide +kernel
theorem pb_lb_763 : pb_bok 12 false code 763 kb_307_763 = true := by decide +kernel
theorem pb_lb_764 : pb_bok 12 false code 764 kb_307_764 = true := by decide +kernel
theorem pb_lb_772 : pb_bok 12 false code 772 kb_307_772 = true := by decide +kernel
theorem pb_lb_805 : pb_bok 12 false code 805 kb_307_805 = true := by decide +kernel
theorem pb_lb_806 : pb_bok 12 false code 806 kb_307_806 = true := by decide +kernel
theorem pb_lb_842 : pb_bok 12 false code 842 kb_307_842 = true := by decide +kernel
theorem pb_lb_843 : pb_bok 12 false code 843 kb_307_843 = true := by decide +kernel
theorem pb_lb_851 : pb_bok 12 false code 851 kb_307_851 = true := by decide +kernel
theorem pb_lb_879 : pb_bok 12 false code 879 kb_307_879 = true := by decide +kernel
theorem pb_lb_880 : pb_bok 12 false code 880 kb_307_880 = true := by decide +kernel
theorem pb_lb_892 : pb_bok 12 false code 892 kb_307_892 = true := by decide +kernel
theorem pb_lb_893 : pb_bok 12 false code 893 kb_307_893 = true := by decide +kernel
theorem pb_lb_924 : pb_bok 12 false code 924 kb_307_924 = true := by decide +kernel
theorem pb_lb_925 : pb_bok 12 false code 925 kb_307_925 = true := by decide +kernel
theorem pb_lb_937 : pb_bok 12 false code 937 kb_307_937 = true := by decide +kernel
theorem pb_lb_938 : pb_bok 12 false code 938 kb_307_938 = true := by decide +kernel
theorem pb_lb_947 : pb_bok 12 false code 947 kb_307_947 = true := by decide +kernel
theorem pb_lb_990 : pb_bok 12 false code 990 kb_307_990 = true := by decide +kernel
theorem pb_lb_1023 : pb_bok 12 false code 1023 kb_307_1023 = true := by decide +kernel
theorem pb_lb_1076 : pb_bok 12 false code 1076 kb_307_1076 = true := by decide +kernel
theorem pb_lb_1119 : pb_bok 12 false code 1119 kb_307_1119 = true := by decide +kernel
theorem pb_lb_1152 : pb_bok 12 false code 1152 kb_307_1152 = true := by decide +kernel
theorem pb_lb_1185 : pb_bok 12 false code 1185 kb_307_1185 = true := by decide +kernel
theorem pb_lb_1228 : pb_bok 12 false code 1228 kb_307_1228 = true := by decide +kernel
theorem pb_lb_1246 : pb_bok 12 false code 1246 kb_307_1246 = true := by decide +kernel
theorem pb_lb_1247 : pb_bok 12 false code 1247 kb_307_1247 = true := by decide +kernel
theorem pb_lb_1268 : pb_bok 12 false code 1268 kb_307_1268 = true := by decide +kernel
theorem pb_lb_1269 : pb_bok 12 false code 1269 kb_307_1269 = true := by decide +kernel
theorem pb_lb_1277 : pb_bok 12 false code 1277 kb_307_1277 = true := by decide +kernel
theorem pb_lb_1310 : pb_bok 12 false code 1310 kb_307_1310 = true := by decide +kernel
theorem pb_lb_1343 : pb_bok 12 false code 1343 kb_307_1343 = true := by decide +kernel
theorem pb_lb_1366 : pb_bok 12 false code 1366 kb_307_1366 = true := by decide +kernel
theorem pb_lb_1367 : pb_bok 12 false code 1367 kb_307_1367 = true := by decide +kernel
theorem pb_lb_1393 : pb_bok 12 false code 1393 kb_307_1393 = true := by decide +kernel
theorem pb_lb_1394 : pb_bok 12 false code 1394 kb_307_1394 = true := by decide +kernel
theorem pb_lb_1403 : pb_bok 12 false code 1403 kb_307_1403 = true := by decide +kernel
theorem pb_lb_1446 : pb_bok 12 false code 1446 kb_307_1446 = true := by decide +kernel
theorem pb_lb_1479 : pb_bok 12 false code 1479 kb_307_1479 = true := by decide +kernel
theorem pb_lb_1522 : pb_bok 12 false code 1522 kb_307_1522 = true := by decide +kernel
theorem pb_lb_1555 : pb_bok 12 false code 1555 kb_307_1555 = true := by decide +kernel
theorem pb_lb_1583 : pb_bok 12 false code 1583 kb_307_1583 = true := by decide +kernel
theorem pb_lb_1584 : pb_bok 12 false code 1584 kb_307_1584 = true := by decide +kernel
theorem pb_lb_1615 : pb_bok 12 false code 1615 kb_307_1615 = true := by decide +kernel
theorem pb_lb_1616 : pb_bok 12 false code 1616 kb_307_1616 = true := by decide +kernel
theorem pb_lb_1624 : pb_bok 12 false code 1624 kb_307_1624 = true := by decide +kernel
theorem pb_lb_1657 : pb_bok 12 false code 1657 kb_307_1657 = true := by decide +kernel
theorem pb_lb_1680 : pb_bok 12 false code 1680 kb_307_1680 = true := by decide +kernel
theorem pb_lb_1681 : pb_bok 12 false code 1681 kb_307_1681 = true := by decide +kernel
theorem pb_lb_1707 : pb_bok 12 false code 1707 kb_307_1707 = true := by decide +kernel
theorem pb_lb_1708 : pb_bok 12 false code 1708 kb_307_1708 = true := by decide +kernel
theorem pb_lb_1716 : pb_bok 12 false code 1716 kb_307_1716 = true := by decide +kernel
theorem pb_lb_1739 : pb_bok 12 false code 1739 kb_307_1739 = true := by decide +kernel
theorem pb_lb_1740 : pb_bok 12 false code 1740 kb_307_1740 = true := by decide +kernel
theorem pb_lb_1766 : pb_bok 12 false code 1766 kb_307_1766 = true := by decide +kernel
theorem pb_lb_1767 : pb_bok 12 false code 1767 kb_307_1767 = true := by decide +kernel
theorem pb_lb_1775 : pb_bok 12 false code 1775 kb_307_1775 = true := by decide +kernel
theorem pb_lb_1818 : pb_bok 12 false code 1818 kb_307_1818 = true := by decide +kernel
theorem pb_lb_1846 : pb_bok 12 false code 1846 kb_307_1846 = true := by decide +kernel
theorem pb_lb_1847 : pb_bok 12 false code 1847 kb_307_1847 = true := by decide +kernel
theorem pb_lb_1878 : pb_bok 12 false code 1878 kb_307_1878 = true := by decide +kernel
theorem pb_lb_1879 : pb_bok 12 false code 1879 kb_307_1879 = true := by decide +kernel
theorem pb_lb_1888 : pb_bok 12 false code 1888 kb_307_1888 = true := by decide +kernel
theorem pb_lb_1906 : pb_bok 12 false code 1906 kb_307_1906 = true := by decide +kernel
theorem pb_lb_1907 : pb_bok 12 false code 1907 kb_307_1907 = true := by decide +kernel
theorem pb_lb_1928 : pb_bok 12 false code 1928 kb_307_1928 = true := by decide +kernel
theorem pb_lb_1929 : pb_bok 12 false code 1929 kb_307_1929 = true := by decide +kernel
theorem pb_lb_1937 : pb_bok 12 false code 1937 kb_307_1937 = true := by decide +kernel
theorem pb_lb_1960 : pb_bok 12 false code 1960 kb_307_1960 = true := by decide +kernel
theorem pb_lb_1983 : pb_bok 12 false code 1983 kb_307_1983 = true := by decide +kernel
theorem pb_lb_2006 : pb_bok 12 false code 2006 kb_307_2006 = true := by decide +kernel
theorem pb_lb_2012 : pb_bok 12 false code 2012 kb_307_2012 = true := by decide +kernel
theorem pb_lg_0 : ∀ q ∈ [(0, kb_307_0), (18, kb_307_18), (208, kb_307_208), (271, kb_307_271), (294, kb_307_294), (327, kb_307_327), (350, kb_307_350), (383, kb_307_383), (426, kb_307_426), (459, kb_307_459), (512, kb_307_512), (545, kb_307_545), (568, kb_307_568), (569, kb_307_569), (595, kb_307_595), (596, kb_307_596), (604, kb_307_604), (627, kb_307_627), (628, kb_307_628), (654, kb_307_654)], pb_bok 12 false code q.1 q.2 = true := List.forall_mem_cons.mpr ⟨pb_lb_0, List.forall_mem_cons.mpr ⟨pb_lb_18, List.forall_mem_cons.mpr ⟨pb_lb_208, List.forall_mem_cons.mpr ⟨pb_lb_271, List.forall_mem_cons.mpr ⟨pb_lb_294, List.forall_mem_cons.mpr ⟨pb_lb_327, List.forall_mem_cons.mpr ⟨pb_lb_350, List.forall_mem_cons.mpr ⟨pb_lb_383, List.forall_mem_cons.mpr ⟨pb_lb_426, List.forall_mem_cons.mpr ⟨pb_lb_459, List.forall_mem_cons.mpr ⟨pb_lb_512, List.forall_mem_cons.mpr ⟨pb_lb_545, List.forall_mem_cons.mpr ⟨pb_lb_568, List.forall_mem_cons.mpr ⟨pb_lb_569, List.forall_mem_cons.mpr ⟨pb_lb_595, List.forall_mem_cons.mpr ⟨pb_lb_596, List.forall_mem_cons.mpr ⟨pb_lb_604, List.forall_mem_cons.mpr ⟨pb_lb_627, List.forall_mem_cons.mpr ⟨pb_lb_628, List.forall_mem_cons.mpr ⟨pb_lb_654, fun q h => absurd h List.not_mem_nil⟩⟩⟩⟩⟩⟩⟩⟩⟩⟩⟩⟩⟩⟩⟩⟩⟩⟩⟩⟩
theorem pb_lg_1 : ∀ q ∈ [(655, kb_307_655), (663, kb_307_663), (686, kb_307_686), (687, kb_307_687), (713, kb_307_713), (714, kb_307_714), (723, kb_307_723), (741, kb_307_741), (742, kb_307_742), (763, kb_307_763), (764, kb_307_764), (772, kb_307_772), (805, kb_307_805), (806, kb_307_806), (842, kb_307_842), (843, kb_307_843), (851, kb_307_851), (879, kb_307_879), (880, kb_307_880), (892, kb_307_892)], pb_bok 12 false code q.1 q.2 = true := List.forall_mem_cons.mpr ⟨pb_lb_655, List.forall_mem_cons.mpr ⟨pb_lb_663, List.forall_mem_cons.mpr ⟨pb_lb_686, List.forall_mem_cons.mpr ⟨pb_lb_687, List.forall_mem_cons.mpr ⟨pb_lb_713, List.forall_mem_cons.mpr ⟨pb_lb_714, List.forall_mem_cons.mpr ⟨pb_lb_723, List.forall_mem_cons.mpr ⟨pb_lb_741, List.forall_mem_cons.mpr ⟨pb_lb_742, List.forall_mem_cons.mpr ⟨pb_lb_763, List.forall_mem_cons.mpr ⟨pb_lb_764, List.forall_mem_cons.mpr ⟨pb_lb_772, List.forall_mem_cons.mpr ⟨pb_lb_805, List.forall_mem_cons.mpr ⟨pb_lb_806, List.forall_mem_cons.mpr ⟨pb_lb_842, List.forall_mem_cons.mpr ⟨pb_lb_843, List.forall_mem_cons.mpr ⟨pb_lb_851, List.forall_mem_cons.mpr ⟨pb_lb_879, List.forall_mem_cons.mpr ⟨pb_lb_880, List.forall_mem_cons.mpr ⟨pb_lb_892, fun q h => absurd h List.not_mem_nil⟩⟩⟩⟩⟩⟩⟩⟩⟩⟩⟩⟩⟩⟩⟩⟩⟩⟩⟩⟩
theorem pb_lg_2 : ∀ q ∈ [(893, kb_307_893), (924, kb_307_924), (925, kb_307_925), (937, kb_307_937), (938, kb_307_938), (947, kb_307_947), (990, kb_307_990), (1023, kb_307_1023), (1076, kb_307_1076), (1119, kb_307_1119), (1152, kb_307_1152), (1185, kb_307_1185), (1228, kb_307_1228), (1246, kb_307_1246), (1247, kb_307_1247), (1268, kb_307_1268), (1269, kb_307_1269), (1277, kb_307_1277), (1310, kb_307_1310), (1343, kb_307_1343)], pb_bok 12 false code q.1 q.2 = true := List.forall_mem_cons.mpr ⟨pb_lb_893, List.forall_mem_cons.mpr ⟨pb_lb_924, List.forall_mem_cons.mpr ⟨pb_lb_925, List.forall_mem_cons.mpr ⟨pb_lb_937, List.forall_mem_cons.mpr ⟨pb_lb_938, List.forall_mem_cons.mpr ⟨pb_lb_947, List.forall_mem_cons.mpr ⟨pb_lb_990, List.forall_mem_cons.mpr ⟨pb_lb_1023, List.forall_mem_cons.mpr ⟨pb_lb_1076, List.forall_mem_cons.mpr ⟨pb_lb_1119, List.forall_mem_cons.mpr ⟨pb_lb_1152, List.forall_mem_cons.mpr ⟨pb_lb_1185, List.forall_mem_cons.mpr ⟨pb_lb_1228, List.forall_mem_cons.mpr ⟨pb_lb_1246, List.forall_mem_cons.mpr ⟨pb_lb_1247, List.forall_mem_cons.mpr ⟨pb_lb_1268, List.forall_mem_cons.mpr ⟨pb_lb_1269, List.forall_mem_cons.mpr ⟨pb_lb_1277, List.forall_mem_cons.mpr ⟨pb_lb_1310, List.forall_mem_cons.mpr ⟨pb_lb_1343, fun q h => absurd h List.not_mem_nil⟩⟩⟩⟩⟩⟩⟩⟩⟩⟩⟩⟩⟩⟩⟩⟩⟩⟩⟩⟩
theorem pb_lg_3 : ∀ q ∈ [(1366, kb_307_1366), (1367, kb_307_1367), (1393, kb_307_1393), (1394, kb_307_1394), (1403, kb_307_1403), (1446, kb_307_1446), (1479, kb_307_1479), (1522, kb_307_1522), (1555, kb_307_1555), (1583, kb_307_1583), (1584, kb_307_1584), (1615, kb_307_1615), (1616, kb_307_1616), (1624, kb_307_1624), (1657, kb_307_1657), (1680, kb_307_1680), (1681, kb_307_1681), (1707, kb_307_1707), (1708, kb_307_1708), (1716, kb_307_1716)], pb_bok 12 false code q.1 q.2 = true := List.forall_mem_cons.mpr ⟨pb_lb_1366, List.forall_mem_cons.mpr ⟨pb_lb_1367, List.forall_mem_cons.mpr ⟨pb_lb_1393, List.forall_mem_cons.mpr ⟨pb_lb_1394, List.forall_mem_cons.mpr ⟨pb_lb_1403, List.forall_mem_cons.mpr ⟨pb_lb_1446, List.forall_mem_cons.mpr ⟨pb_lb_1479, List.forall_mem_cons.mpr ⟨pb_lb_1522, List.forall_mem_cons.mpr ⟨pb_lb_1555, List.forall_mem_cons.mpr ⟨pb_lb_1583, List.forall_mem_cons.mpr ⟨pb_lb_1584, List.forall_mem_cons.mpr ⟨pb_lb_1615, List.forall_mem_cons.mpr ⟨pb_lb_1616, List.forall_mem_cons.mpr ⟨pb_lb_1624, List.forall_mem_cons.mpr ⟨pb_lb_1657, List.forall_mem_cons.mpr ⟨pb_lb_1680, List.forall_mem_cons.mpr ⟨pb_lb_1681, List.forall_mem_cons.mpr ⟨pb_lb_1707, List.forall_mem_cons.mpr ⟨pb_lb_1708, List.forall_mem_cons.mpr ⟨pb_lb_1716, fun q h => absurd h List.not_mem_nil⟩⟩⟩⟩⟩⟩⟩⟩⟩⟩⟩⟩⟩⟩⟩⟩⟩⟩⟩⟩
theorem pb_lg_4 : ∀ q ∈ [(1739, kb_307_1739), (1740, kb_307_1740), (1766, kb_307_1766), (1767, kb_307_1767), (1775, kb_307_1775), (1818, kb_307_1818), (1846, kb_307_1846), (1847, kb_307_1847), (1878, kb_307_1878), (1879, kb_307_1879), (1888, kb_307_1888), (1906, kb_307_1906), (1907, kb_307_1907), (1928, kb_307_1928), (1929, kb_307_1929), (1937, kb_307_1937), (1960, kb_307_1960), (1983, kb_307_1983), (2006, kb_307_2006), (2012, kb_307_2012)], pb_bok 12 false code q.1 q.2 = true := List.forall_mem_cons.mpr ⟨pb_lb_1739, List.forall_mem_cons.mpr ⟨pb_lb_1740, List.forall_mem_cons.mpr ⟨pb_lb_1766, List.forall_mem_cons.mpr ⟨pb_lb_1767, List.forall_mem_cons.mpr ⟨pb_lb_1775, List.forall_mem_cons.mpr ⟨pb_lb_1818, List.forall_mem_cons.mpr ⟨pb_lb_1846, List.forall_mem_cons.mpr ⟨pb_lb_1847, List.forall_mem_cons.mpr ⟨pb_lb_1878, List.forall_mem_cons.mpr ⟨pb_lb_1879, List.forall_mem_cons.mpr ⟨pb_lb_1888, List.forall_mem_cons.mpr ⟨pb_lb_1906, List.forall_mem_cons.mpr ⟨pb_lb_1907, List.forall_mem_cons.mpr ⟨pb_lb_1928, List.forall_mem_cons.mpr ⟨pb_lb_1929, List.forall_mem_cons.mpr ⟨pb_lb_1937, List.forall_mem_cons.mpr ⟨pb_lb_1960, List.forall_mem_cons.mpr ⟨pb_lb_1983, List.forall_mem_cons.mpr ⟨pb_lb_2006, List.forall_mem_cons.mpr ⟨pb_lb_2012, fun q h => absurd h List.not_mem_nil⟩⟩⟩⟩⟩⟩⟩⟩⟩⟩⟩⟩⟩⟩⟩⟩⟩⟩⟩⟩
theorem pb_mok_law : pb_mok 307 = true := by
  have e : pb_CODE 307 = [(0, kb_307_0), (18, kb_307_18), (208, kb_307_208), (271, kb_307_271), (294, kb_307_294), (327, kb_307_327), (350, kb_307_350), (383, kb_307_383), (426, kb_307_426), (459, kb_307_459), (512, kb_307_512), (545, kb_307_545), (568, kb_307_568), (569, kb_307_569), (595, kb_307_595), (596, kb_307_596), (604, kb_307_604), (627, kb_307_627), (628, kb_307_628), (654, kb_307_654)] ++ [(655, kb_307_655), (663, kb_307_663), (686, kb_307_686), (687, kb_307_687), (713, kb_307_713), (714, kb_307_714), (723, kb_307_723), (741, kb_307_741), (742, kb_307_742), (763, kb_307_763), (764, kb_307_764), (772, kb_307_772), (805, kb_307_805), (806, kb_307_806), (842, kb_307_842), (843, kb_307_843), (851, kb_307_851), (879, kb_307_879), (880, kb_307_880), (892, kb_307_892)] ++ [(893, kb_307_893), (924, kb_307_924), (925, kb_307_925), (937, kb_307_937), (938, kb_307_938), (947, kb_307_947), (990, kb_307_990), (1023, kb_307_1023), (1076, kb_307_1076), (1119, kb_307_1119), (1152, kb_307_1152), (1185, kb_307_1185), (1228, kb_307_1228), (1246, kb_307_1246), (1247, kb_307_1247), (1268, kb_307_1268), (1269, kb_307_1269), (1277, kb_307_1277), (1310, kb_307_1310), (1343, kb_307_1343)] ++ [(1366, kb_307_1366), (1367, kb_307_1367), (1393, kb_307_1393), (1394, kb_307_1394), (1403, kb_307_1403), (1446, kb_307_1446), (1479, kb_307_1479), (1522, kb_307_1522), (1555, kb_307_1555), (1583, kb_307_1583), (1584, kb_307_1584), (1615, kb_307_1615), (1616, kb_307_1616), (1624, kb_307_1624), (1657, kb_307_1657), (1680, kb_307_1680), (1681, kb_307_1681), (1707, kb_307_1707), (1708, kb_307_1708), (1716, kb_307_1716)] ++ [(1739, kb_307_1739), (1740, kb_307_1740), (1766, kb_307_1766), (1767, kb_307_1767), (1775, kb_307_1775), (1818, kb_307_1818), (1846, kb_307_1846), (1847, kb_307_1847), (1878, kb_307_1878), (1879, kb_307_1879), (1888, kb_307_1888), (1906, kb_307_1906), (1907, kb_307_1907), (1928, kb_307_1928), (1929, kb_307_1929), (1937, kb_307_1937), (1960, kb_307_1960), (1983, kb_307_1983), (2006, kb_307_2006), (2012, kb_307_2012)] := rfl
  have h : ∀ q ∈ pb_CODE 307, pb_bok 12 false code q.1 q.2 = true := by
    rw [e]
    intro q hq
    simp only [List.mem_append] at hq
    rcases hq with (((hq | hq) | hq) | hq) | hq
    · exact pb_lg_0 q hq
    · exact pb_lg_1 q hq
    · exact pb_lg_2 q hq
    · exact pb_lg_3 q hq
    · exact pb_lg_4 q hq
  exact List.all_eq_true.mpr h
