def f_307_596 (xs : List Int32) (N : Nat) (h : pb_HP) (v1 : Nat) (v2 : Nat) (v3 : Int32) (s0 : Int32) (s1 : Int32) (s2 : Int32) (s3 : Nat) (s4 : Int32) : Option ((Int32 × pb_HP) ⊕ ((Int32 × pb_HP) ⊕ (pb_HP))) :=
  if pb_is h s3 11 then ((f_229 N h s3 s2 s1 s0).bind fun (r126, h127) => (if s4 = r126 then (some (.inl ((v3 + 6, h127)))) else (some (.inr (.inl ((0, h127))))))) else none
def f_307_569 (xs : List Int32) (N : Nat) (h : pb_HP) (v1 : Nat) (v2 : Nat) (v3 : Int32) (s0 : Int32) (s1 : Int32) (s2 : Int32) (s3 : Nat) : Option ((Int32 × pb_HP) ⊕ ((Int32 × pb_HP) ⊕ (pb_HP))) :=
  if pb_is h s3 10 then ((f_133 N h s3 s2 s1 s0).bind fun (r120, h121) => (if pb_in (v3 + 1) xs.length then (if pb_in (v3 + 2) xs.length then (if pb_in (v3 + 3) xs.length then (if (xs.getD (v3 + 3).toNatClampNeg 0) = 0 then (f_307_596 xs N h121 v1 v2 v3 0 (xs.getD (v3 + 2).toNatClampNeg 0) (xs.getD (v3 + 1).toNatClampNeg 0) v2 r120) else (f_307_596 xs N h121 v1 v2 v3 1 (xs.getD (v3 + 2).toNatClampNeg 0) (xs.getD (v3 + 1).toNatClampNeg 0) v2 r120)) else none) else none) else none)) else none
def f_307_655 (xs : List Int32) (N : Nat) (h : pb_HP) (v1 : Nat) (v2 : Nat) (v3 : Int32) (s0 : Int32) (s1 : Int32) (s2 : Int32) (s3 : Nat) (s4 : Int32) : Option ((Int32 × pb_HP) ⊕ ((Int32 × pb_HP) ⊕ (pb_HP))) :=
  if pb_is h s3 11 then ((f_231 N h s3 s2 s1 s0).bind fun (r142, h143) => (if s4 = r142 then (some (.inl ((v3 + 6, h143)))) else (some (.inr (.inl ((0, h143))))))) else none
def f_307_628 (xs : List Int32) (N : Nat) (h : pb_HP) (v1 : Nat) (v2 : Nat) (v3 : Int32) (s0 : Int32) (s1 : Int32) (s2 : Int32) (s3 : Nat) : Option ((Int32 × pb_HP) ⊕ ((Int32 × pb_HP) ⊕ (pb_HP))) :=
  if pb_is h s3 10 then ((f_134 N h s3 s2 s1 s0).bind fun (r136, h137) => (if pb_in (v3 + 1) xs.length then (if pb_in (v3 + 2) xs.length then (if pb_in (v3 + 3) xs.length then (if (xs.getD (v3 + 3).toNatClampNeg 0) = 0 then (f_307_655 xs N h137 v1 v2 v3 0 (xs.getD (v3 + 2).toNatClampNeg 0) (xs.getD (v3 + 1).toNatClampNeg 0) v2 r136) else (f_307_655 xs N h137 v1 v2 v3 1 (xs.getD (v3 + 2).toNatClampNeg 0) (xs.getD (v3 + 1).toNatClampNeg 0) v2 r136)) else none) else none) else none)) else none
def f_307_714 (xs : List Int32) (N : Nat) (h : pb_HP) (v1 : Nat) (v2 : Nat) (v3 : Int32) (s0 : Int32) (s1 : Int32) (s2 : Int32) (s3 : Nat) (s4 : Int64) : Option ((Int32 × pb_HP) ⊕ ((Int32 × pb_HP) ⊕ (pb_HP))) :=
  if pb_is h s3 11 then ((f_235 N h s3 s2 s1 s0).bind fun (r158, h159) => (if (lg_cmp s4 r158) = 0 then (some (.inl ((v3 + 6, h159)))) else (some (.inr (.inl ((0, h159))))))) else none
def f_307_687 (xs : List Int32) (N : Nat) (h : pb_HP) (v1 : Nat) (v2 : Nat) (v3 : Int32) (s0 : Int32) (s1 : Int32) (s2 : Int32) (s3 : Nat) : Option ((Int32 × pb_HP) ⊕ ((Int32 × pb_HP) ⊕ (pb_HP))) :=
  if pb_is h s3 10 then ((f_135 N h s3 s2 s1 s0).bind fun (r152, h153) => (if pb_in (v3 + 1) xs.length then (if pb_in (v3 + 2) xs.length then (if pb_in (v3 + 3) xs.length then (if (xs.getD (v3 + 3).toNatClampNeg 0) = 0 then (f_307_714 xs N h153 v1 v2 v3 0 (xs.getD (v3 + 2).toNatClampNeg 0) (xs.getD (v3 + 1).toNatClampNeg 0) v2 r152) else (f_307_714 xs N h153 v1 v2 v3 1 (xs.getD (v3 + 2).toNatClampNeg 0) (xs.getD (v3 + 1).toNatClampNeg 0) v2 r152)) else none) else none) else none)) else none
def f_307_764 (xs : List Int32) (N : Nat) (h : pb_HP) (v1 : Nat) (v2 : Nat) (v3 : Int32) (s0 : Int32) (s1 : Int32) (s2 : Nat) (s3 : Int32) : Option ((Int32 × pb_HP) ⊕ ((Int32 × pb_HP) ⊕ (pb_HP))) :=
  if pb_is h s2 11 then ((f_237 N h s2 s1 s0).bind fun (r172, h173) => (if s3 = r172 then (some (.inl ((v3 + 6, h173)))) else (some (.inr (.inl ((0, h173))))))) else none
def f_307_742 (xs : List Int32) (N : Nat) (h : pb_HP) (v1 : Nat) (v2 : Nat) (v3 : Int32) (s0 : Int32) (s1 : Int32) (s2 : Nat) : Option ((Int32 × pb_HP) ⊕ ((Int32 × pb_HP) ⊕ (pb_HP))) :=
  if pb_is h s2 10 then ((f_136 N h s2 s1 s0).bind fun (r167, h168) => (if pb_in (v3 + 1) xs.length then (if pb_in (v3 + 2) xs.length then (if (xs.getD (v3 + 2).toNatClampNeg 0) = 0 then (f_307_764 xs N h168 v1 v2 v3 0 (xs.getD (v3 + 1).toNatClampNeg 0) v2 r167) else (f_307_764 xs N h168 v1 v2 v3 1 (xs.getD (v3 + 1).toNatClampNeg 0) v2 r167)) else none) else none)) else none
def f_307_843 (xs : List Int32) (N : Nat) (h : pb_HP) (v1 : Nat) (v2 : Nat) (v3 : Int32) (s0 : Int32) (s1 : Int32) (s2 : Int32) (s3 : Int32) (s4 : Int32) (s5 : Nat) (s6 : Int32) : Option ((Int32 × pb_HP) ⊕ ((Int32 × pb_HP) ⊕ (pb_HP))) :=
  if pb_is h s5 11 then ((f_241 N h s5 s4 s3 s2 s1 s0).bind fun (r192, h193) => (if s6 = r192 then (some (.inl ((v3 + 6, h193)))) else (some (.inr (.inl ((0, h193))))))) else none
def f_307_806 (xs : List Int32) (N : Nat) (h : pb_HP) (v1 : Nat) (v2 : Nat) (v3 : Int32) (s0 : Int32) (s1 : Int32) (s2 : Int32) (s3 : Int32) (s4 : Int32) (s5 : Nat) : Option ((Int32 × pb_HP) ⊕ ((Int32 × pb_HP) ⊕ (pb_HP))) :=
  if pb_is h s5 10 then ((f_137 N h s5 s4 s3 s2 s1 s0).bind fun (r184, h185) => (if pb_in (v3 + 1) xs.length then (if pb_in (v3 + 2) xs.length then (if pb_in (v3 + 3) xs.length then (if pb_in (v3 + 4) xs.length then (if pb_in (v3 + 5) xs.length then (if (xs.getD (v3 + 5).toNatClampNeg 0) = 0 then (f_307_843 xs N h185 v1 v2 v3 0 (xs.getD (v3 + 4).toNatClampNeg 0) (xs.getD (v3 + 3).toNatClampNeg 0) (xs.getD (v3 + 2).toNatClampNeg 0) (xs.getD (v3 + 1).toNatClampNeg 0) v2 r184) else (f_307_843 xs N h185 v1 v2 v3 1 (xs.getD (v3 + 4).toNatClampNeg 0) (xs.getD (v3 + 3).toNatClampNeg 0) (xs.getD (v3 + 2).toNatClampNeg 0) (xs.getD (v3 + 1).toNatClampNeg 0) v2 r184)) else none) else none) else none) else none) else none)) else none
def f_307_938 (xs : List Int32) (N : Nat) (h : pb_HP) (v1 : Nat) (v2 : Nat) (v3 : Int32) (s0 : Int32) (s1 : Int32) (s2 : Int32) (s3 : Int32) (s4 : Int32) (s5 : Nat) (s6 : Int64) : Option ((Int32 × pb_HP) ⊕ ((Int32 × pb_HP) ⊕ (pb_HP))) :=
  if pb_is h s5 11 then ((f_242 N h s5 s4 s3 s2 s1 s0).bind fun (r211, h212) => (if (lg_cmp s6 r211) = 0 then (some (.inl ((v3 + 6, h212)))) else (some (.inr (.inl ((0, h212))))))) else none
def f_307_925 (xs : List Int32) (N : Nat) (h : pb_HP) (v1 : Nat) (v2 : Nat) (v3 : Int32) (s0 : Int32) (s1 : Int32) (s2 : Int32) (s3 : Int32) (s4 : Nat) (s5 : Int64) : Option ((Int32 × pb_HP) ⊕ ((Int32 × pb_HP) ⊕ (pb_HP))) :=
  if pb_in (v3 + 5) xs.length then (if (xs.getD (v3 + 5).toNatClampNeg 0) = 0 then (f_307_938 xs N h v1 v2 v3 0 s0 s1 s2 s3 s4 s5) else (f_307_938 xs N h v1 v2 v3 1 s0 s1 s2 s3 s4 s5)) else none
def f_307_893 (xs : List Int32) (N : Nat) (h : pb_HP) (v1 : Nat) (v2 : Nat) (v3 : Int32) (s0 : Int32) (s1 : Int32) (s2 : Int32) (s3 : Int32) (s4 : Int32) (s5 : Nat) : Option ((Int32 × pb_HP) ⊕ ((Int32 × pb_HP) ⊕ (pb_HP))) :=
  if pb_is h s5 10 then ((f_138 N h s5 s4 s3 s2 s1 s0).bind fun r204 => (if pb_in (v3 + 1) xs.length then (if pb_in (v3 + 2) xs.length then (if pb_in (v3 + 3) xs.length then (if pb_in (v3 + 4) xs.length then (if (xs.getD (v3 + 4).toNatClampNeg 0) = 0 then (f_307_925 xs N h v1 v2 v3 0 (xs.getD (v3 + 3).toNatClampNeg 0) (xs.getD (v3 + 2).toNatClampNeg 0) (xs.getD (v3 + 1).toNatClampNeg 0) v2 r204) else (f_307_925 xs N h v1 v2 v3 1 (xs.getD (v3 + 3).toNatClampNeg 0) (xs.getD (v3 + 2).toNatClampNeg 0) (xs.getD (v3 + 1).toNatClampNeg 0) v2 r204)) else none) else none) else none) else none)) else none
def f_307_880 (xs : List Int32) (N : Nat) (h : pb_HP) (v1 : Nat) (v2 : Nat) (v3 : Int32) (s0 : Int32) (s1 : Int32) (s2 : Int32) (s3 : Int32) (s4 : Nat) : Option ((Int32 × pb_HP) ⊕ ((Int32 × pb_HP) ⊕ (pb_HP))) :=
  if pb_in (v3 + 5) xs.length then (if (xs.getD (v3 + 5).toNatClampNeg 0) = 0 then (f_307_893 xs N h v1 v2 v3 0 s0 s1 s2 s3 s4) else (f_307_893 xs N h v1 v2 v3 1 s0 s1 s2 s3 s4)) else none
def f_307_1269 (xs : List Int32) (N : Nat) (h : pb_HP) (v1 : Nat) (v2 : Nat) (v3 : Int32) (s0 : Int32) (s1 : Int32) (s2 : Nat) (s3 : Int32) : Option ((Int32 × pb_HP) ⊕ ((Int32 × pb_HP) ⊕ (pb_HP))) :=
  if pb_is h s2 11 then ((f_274 N h s2 s1 s0).bind fun (r316, h317) => (if s3 = r316 then (some (.inl ((v3 + 6, h317)))) else (some (.inr (.inl ((0, h317))))))) else none
def f_307_1247 (xs : List Int32) (N : Nat) (h : pb_HP) (v1 : Nat) (v2 : Nat) (v3 : Int32) (s0 : Int32) (s1 : Int32) (s2 : Nat) : Option ((Int32 × pb_HP) ⊕ ((Int32 × pb_HP) ⊕ (pb_HP))) :=
  if pb_is h s2 10 then ((f_146 N h s2 s1 s0).bind fun r312 => (if pb_in (v3 + 1) xs.length then (if pb_in (v3 + 2) xs.length then (if (xs.getD (v3 + 2).toNatClampNeg 0) = 0 then (f_307_1269 xs N h v1 v2 v3 0 (xs.getD (v3 + 1).toNatClampNeg 0) v2 r312) else (f_307_1269 xs N h v1 v2 v3 1 (xs.getD (v3 + 1).toNatClampNeg 0) v2 r312)) else none) else none)) else none
def f_307_1394 (xs : List Int32) (N : Nat) (h : pb_HP) (v1 : Nat) (v2 : Nat) (v3 : Int32) (s0 : Int32) (s1 : Int32) (s2 : Int32) (s3 : Nat) (s4 : Int64) : Option ((Int32 × pb_HP) ⊕ ((Int32 × pb_HP) ⊕ (pb_HP))) :=
  if pb_is h s3 11 then ((f_277 N h s3 s2 s1 s0).bind fun (r349, h350) => (if (lg_cmp s4 r349) = 0 then (some (.inl ((v3 + 6, h350)))) else (some (.inr (.inl ((0, h350))))))) else none
def f_307_1367 (xs : List Int32) (N : Nat) (h : pb_HP) (v1 : Nat) (v2 : Nat) (v3 : Int32) (s0 : Int32) (s1 : Int32) (s2 : Int32) (s3 : Nat) : Option ((Int32 × pb_HP) ⊕ ((Int32 × pb_HP) ⊕ (pb_HP))) :=
  if pb_is h s3 10 then ((f_149 N h s3 s2 s1 s0).bind fun r344 => (if pb_in (v3 + 1) xs.length then (if pb_in (v3 + 2) xs.length then (if pb_in (v3 + 3) xs.length then (if (xs.getD (v3 + 3).toNatClampNeg 0) = 0 then (f_307_1394 xs N h v1 v2 v3 0 (xs.getD (v3 + 2).toNatClampNeg 0) (xs.getD (v3 + 1).toNatClampNeg 0) v2 r344) else (f_307_1394 xs N h v1 v2 v3 1 (xs.getD (v3 + 2).toNatClampNeg 0) (xs.getD (v3 + 1).toNatClampNeg 0) v2 r344)) else none) else none) else none)) else none
def f_307_1616 (xs : List Int32) (N : Nat) (h : pb_HP) (v1 : Nat) (v2 : Nat) (v3 : Int32) (s0 : Int32) (s1 : Int32) (s2 : Int32) (s3 : Int32) (s4 : Nat) (s5 : Int32) : Option ((Int32 × pb_HP) ⊕ ((Int32 × pb_HP) ⊕ (pb_HP))) :=
  if pb_is h s4 11 then ((f_287 N h s4 s3 s2 s1 s0).bind fun (r411, h412) => (if s5 = r411 then (some (.inl ((v3 + 6, h412)))) else (some (.inr (.inl ((0, h412))))))) else none
def f_307_1584 (xs : List Int32) (N : Nat) (h : pb_HP) (v1 : Nat) (v2 : Nat) (v3 : Int32) (s0 : Int32) (s1 : Int32) (s2 : Int32) (s3 : Int32) (s4 : Nat) : Option ((Int32 × pb_HP) ⊕ ((Int32 × pb_HP) ⊕ (pb_HP))) :=
  if pb_is h s4 10 then ((f_154 N h s4 s3 s2 s1 s0).bind fun r405 => (if pb_in (v3 + 1) xs.length then (if pb_in (v3 + 2) xs.length then (if pb_in (v3 + 3) xs.length then (if pb_in (v3 + 4) xs.length then (if (xs.getD (v3 + 4).toNatClampNeg 0) = 0 then (f_307_1616 xs N h v1 v2 v3 0 (xs.getD (v3 + 3).toNatClampNeg 0) (xs.getD (v3 + 2).toNatClampNeg 0) (xs.getD (v3 + 1).toNatClampNeg 0) v2 r405) else (f_307_1616 xs N h v1 v2 v3 1 (xs.getD (v3 + 3).toNatClampNeg 0) (xs.getD (v3 + 2).toNatClampNeg 0) (xs.getD (v3 + 1).toNatClampNeg 0) v2 r405)) else none) else none) else none) else none)) else none
def f_307_1708 (xs : List Int32) (N : Nat) (h : pb_HP) (v1 : Nat) (v2 : Nat) (v3 : Int32) (s0 : Int32) (s1 : Int32) (s2 : Int32) (s3 : Nat) (s4 : Int32) : Option ((Int32 × pb_HP) ⊕ ((Int32 × pb_HP) ⊕ (pb_HP))) :=
  if pb_is h s3 11 then ((f_293 N h s3 s2 s1 s0).bind fun (r439, h440) => (if s4 = r439 then (some (.inl ((v3 + 6, h440)))) else (some (.inr (.inl ((0, h440))))))) else none
def f_307_1681 (xs : List Int32) (N : Nat) (h : pb_HP) (v1 : Nat) (v2 : Nat) (v3 : Int32) (s0 : Int32) (s1 : Int32) (s2 : Int32) (s3 : Nat) : Option ((Int32 × pb_HP) ⊕ ((Int32 × pb_HP) ⊕ (pb_HP))) :=
  if pb_is h s3 10 then ((f_156 N h s3 s2 s1 s0).bind fun (r433, h434) => (if pb_in (v3 + 1) xs.length then (if pb_in (v3 + 2) xs.length then (if pb_in (v3 + 3) xs.length then (if (xs.getD (v3 + 3).toNatClampNeg 0) = 0 then (f_307_1708 xs N h434 v1 v2 v3 0 (xs.getD (v3 + 2).toNatClampNeg 0) (xs.getD (v3 + 1).toNatClampNeg 0) v2 r433) else (f_307_1708 xs N h434 v1 v2 v3 1 (xs.getD (v3 + 2).toNatClampNeg 0) (xs.getD (v3 + 1).toNatClampNeg 0) v2 r433)) else none) else none) else none)) else none
def f_307_1767 (xs : List Int32) (N : Nat) (h : pb_HP) (v1 : Nat) (v2 : Nat) (v3 : Int32) (s0 : Int32) (s1 : Int32) (s2 : Int32) (s3 : Nat) (s4 : Int32) : Option ((Int32 × pb_HP) ⊕ ((Int32 × pb_HP) ⊕ (pb_HP))) :=
  if pb_is h s3 11 then ((f_294 N h s3 s2 s1 s0).bind fun (r455, h456) => (if s4 = r455 then (some (.inl ((v3 + 6, h456)))) else (some (.inr (.inl ((0, h456))))))) else none
def f_307_1740 (xs : List Int32) (N : Nat) (h : pb_HP) (v1 : Nat) (v2 : Nat) (v3 : Int32) (s0 : Int32) (s1 : Int32) (s2 : Int32) (s3 : Nat) : Option ((Int32 × pb_HP) ⊕ ((Int32 × pb_HP) ⊕ (pb_HP))) :=
  if pb_is h s3 10 then ((f_157 N h s3 s2 s1 s0).bind fun (r449, h450) => (if pb_in (v3 + 1) xs.length then (if pb_in (v3 + 2) xs.length then (if pb_in (v3 + 3) xs.length then (if (xs.getD (v3 + 3).toNatClampNeg 0) = 0 then (f_307_1767 xs N h450 v1 v2 v3 0 (xs.getD (v3 + 2).toNatClampNeg 0) (xs.getD (v3 + 1).toNatClampNeg 0) v2 r449) else (f_307_1767 xs N h450 v1 v2 v3 1 (xs.getD (v3 + 2).toNatClampNeg 0) (xs.getD (v3 + 1).toNatClampNeg 0) v2 r449)) else none) else none) else none)) else none
def f_307_1879 (xs : List Int32) (N : Nat) (h : pb_HP) (v1 : Nat) (v2 : Nat) (v3 : Int32) (s0 : Int32) (s1 : Int32) (s2 : Int32) (s3 : Int32) (s4 : Nat) (s5 : Int64) : Option ((Int32 × pb_HP) ⊕ ((Int32 × pb_HP) ⊕ (pb_HP))) :=
  if pb_is h s4 11 then ((f_300 N h s4 s3 s2 s1 s0).bind fun (r487, h488) => (if (lg_cmp s5 r487) = 0 then (some (.inl ((v3 + 6, h488)))) else (some (.inr (.inl ((0, h488))))))) else none
def f_307_1847 (xs : List Int32) (N : Nat) (h : pb_HP) (v1 : Nat) (v2 : Nat) (v3 : Int32) (s0 : Int32) (s1 : Int32) (s2 : Int32) (s3 : Int32) (s4 : Nat) : Option ((Int32 × pb_HP) ⊕ ((Int32 × pb_HP) ⊕ (pb_HP))) :=
  if pb_is h s4 10 then ((f_159 N h s4 s3 s2 s1 s0).bind fun (r480, h481) => (if pb_in (v3 + 1) xs.length then (if pb_in (v3 + 2) xs.length then (if pb_in (v3 + 3) xs.length then (if pb_in (v3 + 4) xs.length then (if (xs.getD (v3 + 4).toNatClampNeg 0) = 0 then (f_307_1879 xs N h481 v1 v2 v3 0 (xs.getD (v3 + 3).toNatClampNeg 0) (xs.getD (v3 + 2).toNatClampNeg 0) (xs.getD (v3 + 1).toNatClampNeg 0) v2 r480) else (f_307_1879 xs N h481 v1 v2 v3 1 (xs.getD (v3 + 3).toNatClampNeg 0) (xs.getD (v3 + 2).toNatClampNeg 0) (xs.getD (v3 + 1).toNatClampNeg 0) v2 r480)) else none) else none) else none) else none)) else none
def f_307_1929 (xs : List Int32) (N : Nat) (h : pb_HP) (v1 : Nat) (v2 : Nat) (v3 : Int32) (s0 : Int32) (s1 : Int32) (s2 : Nat) (s3 : Int32) : Option ((Int32 × pb_HP) ⊕ ((Int32 × pb_HP) ⊕ (pb_HP))) :=
  if pb_is h s2 11 then ((f_301 N h s2 s1 s0).bind fun (r501, h502) => (if s3 = r501 then (some (.inl ((v3 + 6, h502)))) else (some (.inr (.inl ((0, h502))))))) else none
def f_307_1907 (xs : List Int32) (N : Nat) (h : pb_HP) (v1 : Nat) (v2 : Nat) (v3 : Int32) (s0 : Int32) (s1 : Int32) (s2 : Nat) : Option ((Int32 × pb_HP) ⊕ ((Int32 × pb_HP) ⊕ (pb_HP))) :=
  if pb_is h s2 10 then ((f_160 N h s2 s1 s0).bind fun (r496, h497) => (if pb_in (v3 + 1) xs.length then (if pb_in (v3 + 2) xs.length then (if (xs.getD (v3 + 2).toNatClampNeg 0) = 0 then (f_307_1929 xs N h497 v1 v2 v3 0 (xs.getD (v3 + 1).toNatClampNeg 0) v2 r496) else (f_307_1929 xs N h497 v1 v2 v3 1 (xs.getD (v3 + 1).toNatClampNeg 0) v2 r496)) else none) else none)) else none
def f_307_18s (xs : List Int32) (N : Nat) (v1 : Nat) (v2 : Nat) (s : Int32 × pb_HP) : Option ((Int32 × pb_HP) ⊕ ((Int32 × pb_HP) ⊕ (pb_HP))) :=
  if ((Int32.ofNat xs.length) - 6) < s.1 then (some (.inr (.inr s.2))) else (if pb_in s.1 xs.length then (if ((xs.getD s.1.toNatClampNeg 0) &&& 63) = 0 then (if pb_in (s.1 + 1) xs.length then (if pb_in (s.1 + 2) xs.length then (if pb_in (s.1 + 3) xs.length then (if pb_in (s.1 + 4) xs.length then (if pb_in (s.1 + 5) xs.length then (if pb_is s.2 v1 10 then ((f_124 N s.2 v1 (xs.getD (s.1 + 1).toNatClampNeg 0) (xs.getD (s.1 + 2).toNatClampNeg 0) (xs.getD (s.1 + 3).toNatClampNeg 0) (xs.getD (s.1 + 4).toNatClampNeg 0) (xs.getD (s.1 + 5).toNatClampNeg 0)).bind fun (r15, h16) => (if pb_in (s.1 + 1) xs.length then (if pb_in (s.1 + 2) xs.length then (if pb_in (s.1 + 3) xs.length then (if pb_in (s.1 + 4) xs.length then (if pb_in (s.1 + 5) xs.length then (if pb_is h16 v2 11 then ((f_176 N h16 v2 (xs.getD (s.1 + 1).toNatClampNeg 0) (xs.getD (s.1 + 2).toNatClampNeg 0) (xs.getD (s.1 + 3).toNatClampNeg 0) (xs.getD (s.1 + 4).toNatClampNeg 0) (xs.getD (s.1 + 5).toNatClampNeg 0)).bind fun (r23, h24) => (if r15 = r23 then (some (.inl ((s.1 + 6, h24)))) else (some (.inr (.inl ((0, h24))))))) else none) else none) else none) else none) else none) else none)) else none) else none) else none) else none) else none) else none) else if ((xs.getD s.1.toNatClampNeg 0) &&& 63) = 1 then (if pb_in (s.1 + 1) xs.length then (if pb_is s.2 v1 10 then ((f_125 s.2 v1 (xs.getD (s.1 + 1).toNatClampNeg 0)).bind fun (r29, h30) => (if pb_in (s.1 + 1) xs.length then (if pb_is h30 v2 11 then ((f_178 h30 v2 (xs.getD (s.1 + 1).toNatClampNeg 0)).bind fun (r33, h34) => (if r29 = r33 then (some (.inl ((s.1 + 6, h34)))) else (some (.inr (.inl ((0, h34))))))) else none) else none)) else none) else none) else if ((xs.getD s.1.toNatClampNeg 0) &&& 63) = 2 then (if pb_in (s.1 + 1) xs.length then (if pb_in (s.1 + 2) xs.length then (if pb_is s.2 v1 10 then ((f_126 N s.2 v1 (xs.getD (s.1 + 1).toNatClampNeg 0) (xs.getD (s.1 + 2).toNatClampNeg 0)).bind fun (r40, h41) => (if pb_in (s.1 + 1) xs.length then (if pb_in (s.1 + 2) xs.length then (if pb_is h41 v2 11 then ((f_195 N h41 v2 (xs.getD (s.1 + 1).toNatClampNeg 0) (xs.getD (s.1 + 2).toNatClampNeg 0)).bind fun (r45, h46) => (if r40 = r45 then (some (.inl ((s.1 + 6, h46)))) else (some (.inr (.inl ((0, h46))))))) else none) else none) else none)) else none) else none) else none) else if ((xs.getD s.1.toNatClampNeg 0) &&& 63) = 3 then (if pb_in (s.1 + 1) xs.length then (if pb_is s.2 v1 10 then ((f_127 s.2 v1 (xs.getD (s.1 + 1).toNatClampNeg 0)).bind fun r51 => (if pb_is s.2 v2 11 then ((f_196 s.2 v2 (xs.getD (s.1 + 1).toNatClampNeg 0)).bind fun (r53, h54) => (if r51 = r53 then (some (.inl ((s.1 + 6, h54)))) else (some (.inr (.inl ((0, h54))))))) else none)) else none) else none) else if ((xs.getD s.1.toNatClampNeg 0) &&& 63) = 4 then (if pb_in (s.1 + 1) xs.length then (if pb_in (s.1 + 2) xs.length then (if pb_is s.2 v1 10 then ((f_128 s.2 v1 (xs.getD (s.1 + 1).toNatClampNeg 0) (xs.getD (s.1 + 2).toNatClampNeg 0)).bind fun r60 => (if pb_is s.2 v2 11 then ((f_211 N s.2 v2 (xs.getD (s.1 + 1).toNatClampNeg 0) (xs.getD (s.1 + 2).toNatClampNeg 0)).bind fun (r62, h63) => (if r60 = r62 then (some (.inl ((s.1 + 6, h63)))) else (some (.inr (.inl ((0, h63))))))) else none)) else none) else none) else none) else if ((xs.getD s.1.toNatClampNeg 0) &&& 63) = 5 then (if pb_in (s.1 + 1) xs.length then (if pb_in (s.1 + 2) xs.length then (if pb_in (s.1 + 3) xs.length then (if pb_is s.2 v1 10 then ((f_129 s.2 v1 (xs.getD (s.1 + 1).toNatClampNeg 0) (xs.getD (s.1 + 2).toNatClampNeg 0) (xs.getD (s.1 + 3).toNatClampNeg 0)).bind fun r70 => (if pb_is s.2 v2 11 then ((f_215 s.2 v2 (xs.getD (s.1 + 1).toNatClampNeg 0) (xs.getD (s.1 + 2).toNatClampNeg 0) (xs.getD (s.1 + 3).toNatClampNeg 0)).bind fun (r72, h73) => (if r70 = r72 then (some (.inl ((s.1 + 6, h73)))) else (some (.inr (.inl ((0, h73))))))) else none)) else none) else none) else none) else none) else if ((xs.getD s.1.toNatClampNeg 0) &&& 63) = 6 then (if pb_in (s.1 + 1) xs.length then (if pb_in (s.1 + 2) xs.length then (if pb_is s.2 v1 10 then ((f_130 N s.2 v1 (xs.getD (s.1 + 1).toNatClampNeg 0) (xs.getD (s.1 + 2).toNatClampNeg 0)).bind fun (r79, h80) => (if pb_in (s.1 + 1) xs.length then (if pb_in (s.1 + 2) xs.length then (if pb_is h80 v2 11 then ((f_224 N h80 v2 (xs.getD (s.1 + 1).toNatClampNeg 0) (xs.getD (s.1 + 2).toNatClampNeg 0)).bind fun (r84, h85) => (if r79 = r84 then (some (.inl ((s.1 + 6, h85)))) else (some (.inr (.inl ((0, h85))))))) else none) else none) else none)) else none) else none) else none) else if ((xs.getD s.1.toNatClampNeg 0) &&& 63) = 7 then (if pb_in (s.1 + 1) xs.length then (if pb_in (s.1 + 2) xs.length then (if pb_in (s.1 + 3) xs.length then (if pb_in (s.1 + 4) xs.length then (if pb_is s.2 v1 10 then ((f_131 N s.2 v1 (xs.getD (s.1 + 1).toNatClampNeg 0) (xs.getD (s.1 + 2).toNatClampNeg 0) (xs.getD (s.1 + 3).toNatClampNeg 0) (xs.getD (s.1 + 4).toNatClampNeg 0)).bind fun (r93, h94) => (if pb_in (s.1 + 1) xs.length then (if pb_in (s.1 + 2) xs.length then (if pb_in (s.1 + 3) xs.length then (if pb_in (s.1 + 4) xs.length then (if pb_is h94 v2 11 then ((f_227 N h94 v2 (xs.getD (s.1 + 1).toNatClampNeg 0) (xs.getD (s.1 + 2).toNatClampNeg 0) (xs.getD (s.1 + 3).toNatClampNeg 0) (xs.getD (s.1 + 4).toNatClampNeg 0)).bind fun (r100, h101) => (if r93 = r100 then (some (.inl ((s.1 + 6, h101)))) else (some (.inr (.inl ((0, h101))))))) else none) else none) else none) else none) else none)) else none) else none) else none) else none) else none) else if ((xs.getD s.1.toNatClampNeg 0) &&& 63) = 8 then (if pb_in (s.1 + 1) xs.length then (if pb_in (s.1 + 2) xs.length then (if pb_is s.2 v1 10 then ((f_132 N s.2 v1 (xs.getD (s.1 + 1).toNatClampNeg 0) (xs.getD (s.1 + 2).toNatClampNeg 0)).bind fun (r107, h108) => (if pb_in (s.1 + 1) xs.length then (if pb_in (s.1 + 2) xs.length then (if pb_is h108 v2 11 then ((f_228 N h108 v2 (xs.getD (s.1 + 1).toNatClampNeg 0) (xs.getD (s.1 + 2).toNatClampNeg 0)).bind fun (r112, h113) => (if r107 = r112 then (some (.inl ((s.1 + 6, h113)))) else (some (.inr (.inl ((0, h113))))))) else none) else none) else none)) else none) else none) else none) else if ((xs.getD s.1.toNatClampNeg 0) &&& 63) = 9 then (if pb_in (s.1 + 1) xs.length then (if pb_in (s.1 + 2) xs.length then (if pb_in (s.1 + 3) xs.length then (if (xs.getD (s.1 + 3).toNatClampNeg 0) = 0 then (f_307_569 xs N s.2 v1 v2 s.1 0 (xs.getD (s.1 + 2).toNatClampNeg 0) (xs.getD (s.1 + 1).toNatClampNeg 0) v1) else (f_307_569 xs N s.2 v1 v2 s.1 1 (xs.getD (s.1 + 2).toNatClampNeg 0) (xs.getD (s.1 + 1).toNatClampNeg 0) v1)) else none) else none) else none) else if ((xs.getD s.1.toNatClampNeg 0) &&& 63) = 10 then (if pb_in (s.1 + 1) xs.length then (if pb_in (s.1 + 2) xs.length then (if pb_in (s.1 + 3) xs.length then (if (xs.getD (s.1 + 3).toNatClampNeg 0) = 0 then (f_307_628 xs N s.2 v1 v2 s.1 0 (xs.getD (s.1 + 2).toNatClampNeg 0) (xs.getD (s.1 + 1).toNatClampNeg 0) v1) else (f_307_628 xs N s.2 v1 v2 s.1 1 (xs.getD (s.1 + 2).toNatClampNeg 0) (xs.getD (s.1 + 1).toNatClampNeg 0) v1)) else none) else none) else none) else if ((xs.getD s.1.toNatClampNeg 0) &&& 63) = 11 then (if pb_in (s.1 + 1) xs.length then (if pb_in (s.1 + 2) xs.length then (if pb_in (s.1 + 3) xs.length then (if (xs.getD (s.1 + 3).toNatClampNeg 0) = 0 then (f_307_687 xs N s.2 v1 v2 s.1 0 (xs.getD (s.1 + 2).toNatClampNeg 0) (xs.getD (s.1 + 1).toNatClampNeg 0) v1) else (f_307_687 xs N s.2 v1 v2 s.1 1 (xs.getD (s.1 + 2).toNatClampNeg 0) (xs.getD (s.1 + 1).toNatClampNeg 0) v1)) else none) else none) else none) else if ((xs.getD s.1.toNatClampNeg 0) &&& 63) = 12 then (if pb_in (s.1 + 1) xs.length then (if pb_in (s.1 + 2) xs.length then (if (xs.getD (s.1 + 2).toNatClampNeg 0) = 0 then (f_307_742 xs N s.2 v1 v2 s.1 0 (xs.getD (s.1 + 1).toNatClampNeg 0) v1) else (f_307_742 xs N s.2 v1 v2 s.1 1 (xs.getD (s.1 + 1).toNatClampNeg 0) v1)) else none) else none) else if ((xs.getD s.1.toNatClampNeg 0) &&& 63) = 13 then (if pb_in (s.1 + 1) xs.length then (if pb_in (s.1 + 2) xs.length then (if pb_in (s.1 + 3) xs.length then (if pb_in (s.1 + 4) xs.length then (if pb_in (s.1 + 5) xs.length then (if (xs.getD (s.1 + 5).toNatClampNeg 0) = 0 then (f_307_806 xs N s.2 v1 v2 s.1 0 (xs.getD (s.1 + 4).toNatClampNeg 0) (xs.getD (s.1 + 3).toNatClampNeg 0) (xs.getD (s.1 + 2).toNatClampNeg 0) (xs.getD (s.1 + 1).toNatClampNeg 0) v1) else (f_307_806 xs N s.2 v1 v2 s.1 1 (xs.getD (s.1 + 4).toNatClampNeg 0) (xs.getD (s.1 + 3).toNatClampNeg 0) (xs.getD (s.1 + 2).toNatClampNeg 0) (xs.getD (s.1 + 1).toNatClampNeg 0) v1)) else none) else none) else none) else none) else none) else if ((xs.getD s.1.toNatClampNeg 0) &&& 63) = 14 then (if pb_in (s.1 + 1) xs.length then (if pb_in (s.1 + 2) xs.length then (if pb_in (s.1 + 3) xs.length then (if pb_in (s.1 + 4) xs.length then (if (xs.getD (s.1 + 4).toNatClampNeg 0) = 0 then (f_307_880 xs N s.2 v1 v2 s.1 0 (xs.getD (s.1 + 3).toNatClampNeg 0) (xs.getD (s.1 + 2).toNatClampNeg 0) (xs.getD (s.1 + 1).toNatClampNeg 0) v1) else (f_307_880 xs N s.2 v1 v2 s.1 1 (xs.getD (s.1 + 3).toNatClampNeg 0) (xs.getD (s.1 + 2).toNatClampNeg 0) (xs.getD (s.1 + 1).toNatClampNeg 0) v1)) else none) else none) else none) else none) else if ((xs.getD s.1.toNatClampNeg 0) &&& 63) = 15 then (if pb_in (s.1 + 1) xs.length then (if pb_in (s.1 + 2) xs.length then (if pb_in (s.1 + 3) xs.length then (if pb_is s.2 v1 10 then ((f_139 s.2 v1 (xs.getD (s.1 + 1).toNatClampNeg 0) (xs.getD (s.1 + 2).toNatClampNeg 0) (xs.getD (s.1 + 3).toNatClampNeg 0)).bind fun r223 => (if pb_is s.2 v2 11 then ((f_246 s.2 v2 (xs.getD (s.1 + 1).toNatClampNeg 0) (xs.getD (s.1 + 2).toNatClampNeg 0) (xs.getD (s.1 + 3).toNatClampNeg 0)).bind fun (r225, h226) => (if r223 = r225 then (some (.inl ((s.1 + 6, h226)))) else (some (.inr (.inl ((0, h226))))))) else none)) else none) else none) else none) else none) else if ((xs.getD s.1.toNatClampNeg 0) &&& 63) = 16 then (if pb_in (s.1 + 1) xs.length then (if pb_in (s.1 + 2) xs.length then (if pb_is s.2 v1 10 then ((f_140 N s.2 v1 (xs.getD (s.1 + 1).toNatClampNeg 0) (xs.getD (s.1 + 2).toNatClampNeg 0)).bind fun (r232, h233) => (if pb_in (s.1 + 1) xs.length then (if pb_in (s.1 + 2) xs.length then (if pb_is h233 v2 11 then ((f_255 N h233 v2 (xs.getD (s.1 + 1).toNatClampNeg 0) (xs.getD (s.1 + 2).toNatClampNeg 0)).bind fun (r237, h238) => (if r232 = r237 then (some (.inl ((s.1 + 6, h238)))) else (some (.inr (.inl ((0, h238))))))) else none) else none) else none)) else none) else none) else none) else if ((xs.getD s.1.toNatClampNeg 0) &&& 63) = 17 then (if pb_in (s.1 + 1) xs.length then (if pb_in (s.1 + 2) xs.length then (if pb_in (s.1 + 3) xs.length then (if pb_in (s.1 + 4) xs.length then (if pb_is s.2 v1 10 then ((f_141 N s.2 v1 (xs.getD (s.1 + 1).toNatClampNeg 0) (xs.getD (s.1 + 2).toNatClampNeg 0) (xs.getD (s.1 + 3).toNatClampNeg 0) (xs.getD (s.1 + 4).toNatClampNeg 0)).bind fun (r246, h247) => (if pb_in (s.1 + 1) xs.length then (if pb_in (s.1 + 2) xs.length then (if pb_in (s.1 + 3) xs.length then (if pb_in (s.1 + 4) xs.length then (if pb_is h247 v2 11 then ((f_258 N h247 v2 (xs.getD (s.1 + 1).toNatClampNeg 0) (xs.getD (s.1 + 2).toNatClampNeg 0) (xs.getD (s.1 + 3).toNatClampNeg 0) (xs.getD (s.1 + 4).toNatClampNeg 0)).bind fun (r253, h254) => (if r246 = r253 then (some (.inl ((s.1 + 6, h254)))) else (some (.inr (.inl ((0, h254))))))) else none) else none) else none) else none) else none)) else none) else none) else none) else none) else none) else if ((xs.getD s.1.toNatClampNeg 0) &&& 63) = 18 then (if pb_in (s.1 + 1) xs.length then (if pb_in (s.1 + 2) xs.length then (if pb_in (s.1 + 3) xs.length then (if pb_is s.2 v1 10 then ((f_142 N s.2 v1 (xs.getD (s.1 + 1).toNatClampNeg 0) (xs.getD (s.1 + 2).toNatClampNeg 0) (xs.getD (s.1 + 3).toNatClampNeg 0)).bind fun (r261, h262) => (if pb_in (s.1 + 1) xs.length then (if pb_in (s.1 + 2) xs.length then (if pb_in (s.1 + 3) xs.length then (if pb_is h262 v2 11 then ((f_261 N h262 v2 (xs.getD (s.1 + 1).toNatClampNeg 0) (xs.getD (s.1 + 2).toNatClampNeg 0) (xs.getD (s.1 + 3).toNatClampNeg 0)).bind fun (r267, h268) => (if r261 = r267 then (some (.inl ((s.1 + 6, h268)))) else (some (.inr (.inl ((0, h268))))))) else none) else none) else none) else none)) else none) else none) else none) else none) else if ((xs.getD s.1.toNatClampNeg 0) &&& 63) = 19 then (if pb_in (s.1 + 1) xs.length then (if pb_in (s.1 + 2) xs.length then (if pb_is s.2 v1 10 then ((f_143 N s.2 v1 (xs.getD (s.1 + 1).toNatClampNeg 0) (xs.getD (s.1 + 2).toNatClampNeg 0)).bind fun (r274, h275) => (if pb_in (s.1 + 1) xs.length then (if pb_in (s.1 + 2) xs.length then (if pb_is h275 v2 11 then ((f_270 N h275 v2 (xs.getD (s.1 + 1).toNatClampNeg 0) (xs.getD (s.1 + 2).toNatClampNeg 0)).bind fun (r279, h280) => (if r274 = r279 then (some (.inl ((s.1 + 6, h280)))) else (some (.inr (.inl ((0, h280))))))) else none) else none) else none)) else none) else none) else none) else if ((xs.getD s.1.toNatClampNeg 0) &&& 63) = 20 then (if pb_in (s.1 + 1) xs.length then (if pb_in (s.1 + 2) xs.length then (if pb_is s.2 v1 10 then ((f_144 N s.2 v1 (xs.getD (s.1 + 1).toNatClampNeg 0) (xs.getD (s.1 + 2).toNatClampNeg 0)).bind fun (r286, h287) => (if pb_in (s.1 + 1) xs.length then (if pb_in (s.1 + 2) xs.length then (if pb_is h287 v2 11 then ((f_271 N h287 v2 (xs.getD (s.1 + 1).toNatClampNeg 0) (xs.getD (s.1 + 2).toNatClampNeg 0)).bind fun (r291, h292) => (if r286 = r291 then (some (.inl ((s.1 + 6, h292)))) else (some (.inr (.inl ((0, h292))))))) else none) else none) else none)) else none) else none) else none) else if ((xs.getD s.1.toNatClampNeg 0) &&& 63) = 21 then (if pb_in (s.1 + 1) xs.length then (if pb_in (s.1 + 2) xs.length then (if pb_in (s.1 + 3) xs.length then (if pb_is s.2 v1 10 then ((f_145 N s.2 v1 (xs.getD (s.1 + 1).toNatClampNeg 0) (xs.getD (s.1 + 2).toNatClampNeg 0) (xs.getD (s.1 + 3).toNatClampNeg 0)).bind fun (r299, h300) => (if pb_in (s.1 + 1) xs.length then (if pb_in (s.1 + 2) xs.length then (if pb_in (s.1 + 3) xs.length then (if pb_is h300 v2 11 then ((f_272 N h300 v2 (xs.getD (s.1 + 1).toNatClampNeg 0) (xs.getD (s.1 + 2).toNatClampNeg 0) (xs.getD (s.1 + 3).toNatClampNeg 0)).bind fun (r305, h306) => (if r299 = r305 then (some (.inl ((s.1 + 6, h306)))) else (some (.inr (.inl ((0, h306))))))) else none) else none) else none) else none)) else none) else none) else none) else none) else if ((xs.getD s.1.toNatClampNeg 0) &&& 63) = 22 then (if pb_in (s.1 + 1) xs.length then (if pb_in (s.1 + 2) xs.length then (if (xs.getD (s.1 + 2).toNatClampNeg 0) = 0 then (f_307_1247 xs N s.2 v1 v2 s.1 0 (xs.getD (s.1 + 1).toNatClampNeg 0) v1) else (f_307_1247 xs N s.2 v1 v2 s.1 1 (xs.getD (s.1 + 1).toNatClampNeg 0) v1)) else none) else none) else if ((xs.getD s.1.toNatClampNeg 0) &&& 63) = 23 then (if pb_in (s.1 + 1) xs.length then (if pb_in (s.1 + 2) xs.length then (if pb_is s.2 v1 10 then ((f_147 N s.2 v1 (xs.getD (s.1 + 1).toNatClampNeg 0) (xs.getD (s.1 + 2).toNatClampNeg 0)).bind fun r325 => (if pb_is s.2 v2 11 then ((f_275 N s.2 v2 (xs.getD (s.1 + 1).toNatClampNeg 0) (xs.getD (s.1 + 2).toNatClampNeg 0)).bind fun (r327, h328) => (if r325 = r327 then (some (.inl ((s.1 + 6, h328)))) else (some (.inr (.inl ((0, h328))))))) else none)) else none) else none) else none) else if ((xs.getD s.1.toNatClampNeg 0) &&& 63) = 24 then (if pb_in (s.1 + 1) xs.length then (if pb_in (s.1 + 2) xs.length then (if pb_is s.2 v1 10 then ((f_148 N s.2 v1 (xs.getD (s.1 + 1).toNatClampNeg 0) (xs.getD (s.1 + 2).toNatClampNeg 0)).bind fun r334 => (if pb_is s.2 v2 11 then ((f_276 N s.2 v2 (xs.getD (s.1 + 1).toNatClampNeg 0) (xs.getD (s.1 + 2).toNatClampNeg 0)).bind fun (r336, h337) => (if r334 = r336 then (some (.inl ((s.1 + 6, h337)))) else (some (.inr (.inl ((0, h337))))))) else none)) else none) else none) else none) else if ((xs.getD s.1.toNatClampNeg 0) &&& 63) = 25 then (if pb_in (s.1 + 1) xs.length then (if pb_in (s.1 + 2) xs.length then (if pb_in (s.1 + 3) xs.length then (if (xs.getD (s.1 + 3).toNatClampNeg 0) = 0 then (f_307_1367 xs N s.2 v1 v2 s.1 0 (xs.getD (s.1 + 2).toNatClampNeg 0) (xs.getD (s.1 + 1).toNatClampNeg 0) v1) else (f_307_1367 xs N s.2 v1 v2 s.1 1 (xs.getD (s.1 + 2).toNatClampNeg 0) (xs.getD (s.1 + 1).toNatClampNeg 0) v1)) else none) else none) else none) else if ((xs.getD s.1.toNatClampNeg 0) &&& 63) = 26 then (if pb_in (s.1 + 1) xs.length then (if pb_in (s.1 + 2) xs.length then (if pb_in (s.1 + 3) xs.length then (if pb_is s.2 v1 10 then ((f_150 N s.2 v1 (xs.getD (s.1 + 1).toNatClampNeg 0) (xs.getD (s.1 + 2).toNatClampNeg 0) (xs.getD (s.1 + 3).toNatClampNeg 0)).bind fun r359 => (if pb_is s.2 v2 11 then ((f_278 N s.2 v2 (xs.getD (s.1 + 1).toNatClampNeg 0) (xs.getD (s.1 + 2).toNatClampNeg 0) (xs.getD (s.1 + 3).toNatClampNeg 0)).bind fun (r361, h362) => (if r359 = r361 then (some (.inl ((s.1 + 6, h362)))) else (some (.inr (.inl ((0, h362))))))) else none)) else none) else none) else none) else none) else if ((xs.getD s.1.toNatClampNeg 0) &&& 63) = 27 then (if pb_in (s.1 + 1) xs.length then (if pb_in (s.1 + 2) xs.length then (if pb_is s.2 v1 10 then ((f_151 N s.2 v1 (xs.getD (s.1 + 1).toNatClampNeg 0) (xs.getD (s.1 + 2).toNatClampNeg 0)).bind fun r368 => (if pb_is s.2 v2 11 then ((f_280 N s.2 v2 (xs.getD (s.1 + 1).toNatClampNeg 0) (xs.getD (s.1 + 2).toNatClampNeg 0)).bind fun (r370, h371) => (if r368 = r370 then (some (.inl ((s.1 + 6, h371)))) else (some (.inr (.inl ((0, h371))))))) else none)) else none) else none) else none) else if ((xs.getD s.1.toNatClampNeg 0) &&& 63) = 28 then (if pb_in (s.1 + 1) xs.length then (if pb_in (s.1 + 2) xs.length then (if pb_in (s.1 + 3) xs.length then (if pb_is s.2 v1 10 then ((f_152 N s.2 v1 (xs.getD (s.1 + 1).toNatClampNeg 0) (xs.getD (s.1 + 2).toNatClampNeg 0) (xs.getD (s.1 + 3).toNatClampNeg 0)).bind fun (r378, h379) => (if pb_in (s.1 + 1) xs.length then (if pb_in (s.1 + 2) xs.length then (if pb_in (s.1 + 3) xs.length then (if pb_is h379 v2 11 then ((f_284 N h379 v2 (xs.getD (s.1 + 1).toNatClampNeg 0) (xs.getD (s.1 + 2).toNatClampNeg 0) (xs.getD (s.1 + 3).toNatClampNeg 0)).bind fun (r384, h385) => (if r378 = r384 then (some (.inl ((s.1 + 6, h385)))) else (some (.inr (.inl ((0, h385))))))) else none) else none) else none) else none)) else none) else none) else none) else none) else if ((xs.getD s.1.toNatClampNeg 0) &&& 63) = 29 then (if pb_in (s.1 + 1) xs.length then (if pb_in (s.1 + 2) xs.length then (if pb_is s.2 v1 10 then ((f_153 N s.2 v1 (xs.getD (s.1 + 1).toNatClampNeg 0) (xs.getD (s.1 + 2).toNatClampNeg 0)).bind fun (r391, h392) => (if pb_in (s.1 + 1) xs.length then (if pb_in (s.1 + 2) xs.length then (if pb_is h392 v2 11 then ((f_285 N h392 v2 (xs.getD (s.1 + 1).toNatClampNeg 0) (xs.getD (s.1 + 2).toNatClampNeg 0)).bind fun (r396, h397) => (if r391 = r396 then (some (.inl ((s.1 + 6, h397)))) else (some (.inr (.inl ((0, h397))))))) else none) else none) else none)) else none) else none) else none) else if ((xs.getD s.1.toNatClampNeg 0) &&& 63) = 30 then (if pb_in (s.1 + 1) xs.length then (if pb_in (s.1 + 2) xs.length then (if pb_in (s.1 + 3) xs.length then (if pb_in (s.1 + 4) xs.length then (if (xs.getD (s.1 + 4).toNatClampNeg 0) = 0 then (f_307_1584 xs N s.2 v1 v2 s.1 0 (xs.getD (s.1 + 3).toNatClampNeg 0) (xs.getD (s.1 + 2).toNatClampNeg 0) (xs.getD (s.1 + 1).toNatClampNeg 0) v1) else (f_307_1584 xs N s.2 v1 v2 s.1 1 (xs.getD (s.1 + 3).toNatClampNeg 0) (xs.getD (s.1 + 2).toNatClampNeg 0) (xs.getD (s.1 + 1).toNatClampNeg 0) v1)) else none) else none) else none) else none) else if ((xs.getD s.1.toNatClampNeg 0) &&& 63) = 31 then (if pb_in (s.1 + 1) xs.length then (if pb_in (s.1 + 2) xs.length then (if pb_is s.2 v1 10 then ((f_155 N s.2 v1 (xs.getD (s.1 + 1).toNatClampNeg 0) (xs.getD (s.1 + 2).toNatClampNeg 0)).bind fun (r420, h421) => (if pb_in (s.1 + 1) xs.length then (if pb_in (s.1 + 2) xs.length then (if pb_is h421 v2 11 then ((f_292 N h421 v2 (xs.getD (s.1 + 1).toNatClampNeg 0) (xs.getD (s.1 + 2).toNatClampNeg 0)).bind fun (r425, h426) => (if r420 = r425 then (some (.inl ((s.1 + 6, h426)))) else (some (.inr (.inl ((0, h426))))))) else none) else none) else none)) else none) else none) else none) else if ((xs.getD s.1.toNatClampNeg 0) &&& 63) = 32 then (if pb_in (s.1 + 1) xs.length then (if pb_in (s.1 + 2) xs.length then (if pb_in (s.1 + 3) xs.length then (if (xs.getD (s.1 + 3).toNatClampNeg 0) = 0 then (f_307_1681 xs N s.2 v1 v2 s.1 0 (xs.getD (s.1 + 2).toNatClampNeg 0) (xs.getD (s.1 + 1).toNatClampNeg 0) v1) else (f_307_1681 xs N s.2 v1 v2 s.1 1 (xs.getD (s.1 + 2).toNatClampNeg 0) (xs.getD (s.1 + 1).toNatClampNeg 0) v1)) else none) else none) else none) else if ((xs.getD s.1.toNatClampNeg 0) &&& 63) = 33 then (if pb_in (s.1 + 1) xs.length then (if pb_in (s.1 + 2) xs.length then (if pb_in (s.1 + 3) xs.length then (if (xs.getD (s.1 + 3).toNatClampNeg 0) = 0 then (f_307_1740 xs N s.2 v1 v2 s.1 0 (xs.getD (s.1 + 2).toNatClampNeg 0) (xs.getD (s.1 + 1).toNatClampNeg 0) v1) else (f_307_1740 xs N s.2 v1 v2 s.1 1 (xs.getD (s.1 + 2).toNatClampNeg 0) (xs.getD (s.1 + 1).toNatClampNeg 0) v1)) else none) else none) else none) else if ((xs.getD s.1.toNatClampNeg 0) &&& 63) = 34 then (if pb_in (s.1 + 1) xs.length then (if pb_in (s.1 + 2) xs.length then (if pb_in (s.1 + 3) xs.length then (if pb_is s.2 v1 10 then ((f_158 N s.2 v1 (xs.getD (s.1 + 1).toNatClampNeg 0) (xs.getD (s.1 + 2).toNatClampNeg 0) (xs.getD (s.1 + 3).toNatClampNeg 0)).bind fun (r465, h466) => (if pb_in (s.1 + 1) xs.length then (if pb_in (s.1 + 2) xs.length then (if pb_in (s.1 + 3) xs.length then (if pb_is h466 v2 11 then ((f_299 N h466 v2 (xs.getD (s.1 + 1).toNatClampNeg 0) (xs.getD (s.1 + 2).toNatClampNeg 0) (xs.getD (s.1 + 3).toNatClampNeg 0)).bind fun (r471, h472) => (if r465 = r471 then (some (.inl ((s.1 + 6, h472)))) else (some (.inr (.inl ((0, h472))))))) else none) else none) else none) else none)) else none) else none) else none) else none) else if ((xs.getD s.1.toNatClampNeg 0) &&& 63) = 35 then (if pb_in (s.1 + 1) xs.length then (if pb_in (s.1 + 2) xs.length then (if pb_in (s.1 + 3) xs.length then (if pb_in (s.1 + 4) xs.length then (if (xs.getD (s.1 + 4).toNatClampNeg 0) = 0 then (f_307_1847 xs N s.2 v1 v2 s.1 0 (xs.getD (s.1 + 3).toNatClampNeg 0) (xs.getD (s.1 + 2).toNatClampNeg 0) (xs.getD (s.1 + 1).toNatClampNeg 0) v1) else (f_307_1847 xs N s.2 v1 v2 s.1 1 (xs.getD (s.1 + 3).toNatClampNeg 0) (xs.getD (s.1 + 2).toNatClampNeg 0) (xs.getD (s.1 + 1).toNatClampNeg 0) v1)) else none) else none) else none) else none) else if ((xs.getD s.1.toNatClampNeg 0) &&& 63) = 36 then (if pb_in (s.1 + 1) xs.length then (if pb_in (s.1 + 2) xs.length then (if (xs.getD (s.1 + 2).toNatClampNeg 0) = 0 then (f_307_1907 xs N s.2 v1 v2 s.1 0 (xs.getD (s.1 + 1).toNatClampNeg 0) v1) else (f_307_1907 xs N s.2 v1 v2 s.1 1 (xs.getD (s.1 + 1).toNatClampNeg 0) v1)) else none) else none) else if ((xs.getD s.1.toNatClampNeg 0) &&& 63) = 37 then (if pb_in (s.1 + 1) xs.length then (if pb_is s.2 v1 10 then ((f_161 s.2 v1 (xs.getD (s.1 + 1).toNatClampNeg 0)).bind fun r509 => (if pb_is s.2 v2 11 then ((f_302 s.2 v2 (xs.getD (s.1 + 1).toNatClampNeg 0)).bind fun (r511, h512) => (if r509 = r511 then (some (.inl ((s.1 + 6, h512)))) else (some (.inr (.inl ((0, h512))))))) else none)) else none) else none) else if ((xs.getD s.1.toNatClampNeg 0) &&& 63) = 38 then (if pb_in (s.1 + 1) xs.length then (if pb_is s.2 v1 10 then ((f_162 N s.2 v1 (xs.getD (s.1 + 1).toNatClampNeg 0)).bind fun (r517, h518) => (if pb_in (s.1 + 1) xs.length then (if pb_is h518 v2 11 then ((f_303 N h518 v2 (xs.getD (s.1 + 1).toNatClampNeg 0)).bind fun (r521, h522) => (if r517 = r521 then (some (.inl ((s.1 + 6, h522)))) else (some (.inr (.inl ((0, h522))))))) else none) else none)) else none) else none) else if ((xs.getD s.1.toNatClampNeg 0) &&& 63) = 39 then (if pb_in (s.1 + 1) xs.length then (if pb_is s.2 v1 10 then ((f_163 N s.2 v1 (xs.getD (s.1 + 1).toNatClampNeg 0)).bind fun (r527, h528) => (if pb_in (s.1 + 1) xs.length then (if pb_is h528 v2 11 then ((f_304 N h528 v2 (xs.getD (s.1 + 1).toNatClampNeg 0)).bind fun (r531, h532) => (if r527 = r531 then (some (.inl ((s.1 + 6, h532)))) else (some (.inr (.inl ((0, h532))))))) else none) else none)) else none) else none) else (some (.inl ((s.1 + 6, s.2))))) else none)
/-- PointedBenchLaw.law -/
def f_307 (xs : List Int32) (N : Nat) (h : pb_HP) : Option (Int32 × pb_HP) :=
  if pb_SH h.1 = (10, 0) then ((f_123 N (pb_nw h) h.1).bind fun h3 => (if pb_SH h3.1 = (11, 0) then ((f_167 (pb_nw h3) h3.1).bind fun h6 => ((pb_wl (f_307_18s xs N h.1 h3.1) N ((0, h6))).bind fun e535 => (match e535 with | .inl q537 => some q537 | .inr x536 => some ((1, x536))))) else none)) else none
set_option maxRecDepth 4000 in
theorem l_307 {xs : List Int32} {d : Nat} {N : Nat} {h : pb_HP}  {r : Int32} {hE : pb_HP} (hf : f_307 xs N h = some ((r, hE))) : pb_AR xs (d + 26) 307 h [.retAddr 5] (some (.int r)) hE := by
  intro G hG
  have hc_ : pb_CODE 307 = kc_307 := rfl
  rw [hc_] at hG
  have hj_596 : ∀ (h : pb_HP) (v1 : Nat) (v2 : Nat) (v3 : Int32) (s0 : Int32) (s1 : Int32) (s2 : Int32) (s3 : Nat) (s4 : Int32) x, f_307_596 xs N h v1 v2 v3 s0 s1 s2 s3 s4 = some x → pb_kk (fun (s_ : Int32 × pb_HP) => G 18 [(0, .retAddr 5), (1, .ref v1), (2, .ref v2), (3, .int s_.1)] [] s_.2) (fun (e_ : (Int32 × pb_HP) ⊕ (pb_HP)) => pb_kk (fun (q_ : Int32 × pb_HP) => q_ = (r, hE)) (fun (x_ : pb_HP) => G 2012 [] [] x_) e_) x → G 596 [(0, .retAddr 5), (1, .ref v1), (2, .ref v2), (3, .int v3)] [.int s0, .int s1, .int s2, .ref s3, .int s4] h := by
    intro h v1 v2 v3 s0 s1 s2 s3 s4 x hf hk
    unfold f_307_596 at hf
    refine hG.1 15 596 kb_307_596 _ _ _ rfl ?_
    obtain ⟨hg125, hf⟩ := pb_gd hf
    obtain ⟨⟨r126, h127⟩, cr126, hf⟩ := Option.bind_eq_some_iff.mp hf
    try dsimp only at hf
    refine And.intro hg125 (And.intro (Nat.le_of_ble_eq_true rfl) (And.intro (Nat.le_of_ble_eq_true rfl) (Exists.intro (some (.int r126)) (Exists.intro _ (And.intro (l_229 cr126) (?_))))))
    refine And.intro (fun (hc128 : s4 = r126) => ?_) (fun (hc128 : ¬ (s4 = r126)) => ?_)
    · rw [if_pos hc128] at hf
      refine hG.1 98 2006 kb_307_2006 _ _ _ rfl ?_
      cases hf
      exact hk
    · rw [if_neg hc128] at hf
      cases hf
      cases hk
      exact And.intro (fun _ => Or.inl rfl) (And.intro rfl rfl)
  have hj_569 : ∀ (h : pb_HP) (v1 : Nat) (v2 : Nat) (v3 : Int32) (s0 : Int32) (s1 : Int32) (s2 : Int32) (s3 : Nat) x, f_307_569 xs N h v1 v2 v3 s0 s1 s2 s3 = some x → pb_kk (fun (s_ : Int32 × pb_HP) => G 18 [(0, .retAddr 5), (1, .ref v1), (2, .ref v2), (3, .int s_.1)] [] s_.2) (fun (e_ : (Int32 × pb_HP) ⊕ (pb_HP)) => pb_kk (fun (q_ : Int32 × pb_HP) => q_ = (r, hE)) (fun (x_ : pb_HP) => G 2012 [] [] x_) e_) x → G 569 [(0, .retAddr 5), (1, .ref v1), (2, .ref v2), (3, .int v3)] [.int s0, .int s1, .int s2, .ref s3] h := by
    intro h v1 v2 v3 s0 s1 s2 s3 x hf hk
    unfold f_307_569 at hf
    refine hG.1 13 569 kb_307_569 _ _ _ rfl ?_
    obtain ⟨hg119, hf⟩ := pb_gd hf
    obtain ⟨⟨r120, h121⟩, cr120, hf⟩ := Option.bind_eq_some_iff.mp hf
    try dsimp only at hf
    refine And.intro hg119 (And.intro (Nat.le_of_ble_eq_true rfl) (And.intro (Nat.le_of_ble_eq_true rfl) (Exists.intro (some (.int r120)) (Exists.intro _ (And.intro (l_133 cr120) (?_))))))
    obtain ⟨hg122, hf⟩ := pb_gd hf
    obtain ⟨hg123, hf⟩ := pb_gd hf
    obtain ⟨hg124, hf⟩ := pb_gd hf
    refine And.intro hg122 (And.intro hg123 (And.intro hg124 (?_)))
    refine And.intro (fun (hc129 : (xs.getD (v3 + 3).toNatClampNeg 0) = 0) => ?_) (fun (hc129 : ¬ ((xs.getD (v3 + 3).toNatClampNeg 0) = 0)) => ?_)
    · rw [if_pos hc129] at hf
      refine hG.1 14 595 kb_307_595 _ _ _ rfl ?_
      exact hj_596 _ _ _ _ _ _ _ _ _ _ hf hk
    · rw [if_neg hc129] at hf
      exact hj_596 _ _ _ _ _ _ _ _ _ _ hf hk
  have hj_655 : ∀ (h : pb_HP) (v1 : Nat) (v2 : Nat) (v3 : Int32) (s0 : Int32) (s1 : Int32) (s2 : Int32) (s3 : Nat) (s4 : Int32) x, f_307_655 xs N h v1 v2 v3 s0 s1 s2 s3 s4 = some x → pb_kk (fun (s_ : Int32 × pb_HP) => G 18 [(0, .retAddr 5), (1, .ref v1), (2, .ref v2), (3, .int s_.1)] [] s_.2) (fun (e_ : (Int32 × pb_HP) ⊕ (pb_HP)) => pb_kk (fun (q_ : Int32 × pb_HP) => q_ = (r, hE)) (fun (x_ : pb_HP) => G 2012 [] [] x_) e_) x → G 655 [(0, .retAddr 5), (1, .ref v1), (2, .ref v2), (3, .int v3)] [.int s0, .int s1, .int s2, .ref s3, .int s4] h := by
    intro h v1 v2 v3 s0 s1 s2 s3 s4 x hf hk
    unfold f_307_655 at hf
    refine hG.1 20 655 kb_307_655 _ _ _ rfl ?_
    obtain ⟨hg141, hf⟩ := pb_gd hf
    obtain ⟨⟨r142, h143⟩, cr142, hf⟩ := Option.bind_eq_some_iff.mp hf
    try dsimp only at hf
    refine And.intro hg141 (And.intro (Nat.le_of_ble_eq_true rfl) (And.intro (Nat.le_of_ble_eq_true rfl) (Exists.intro (some (.int r142)) (Exists.intro _ (And.intro (l_231 cr142) (?_))))))
    refine And.intro (fun (hc144 : s4 = r142) => ?_) (fun (hc144 : ¬ (s4 = r142)) => ?_)
    · rw [if_pos hc144] at hf
      refine hG.1 98 2006 kb_307_2006 _ _ _ rfl ?_
      cases hf
      exact hk
    · rw [if_neg hc144] at hf
      cases hf
      cases hk
      exact And.intro (fun _ => Or.inl rfl) (And.intro rfl rfl)
  have hj_628 : ∀ (h : pb_HP) (v1 : Nat) (v2 : Nat) (v3 : Int32) (s0 : Int32) (s1 : Int32) (s2 : Int32) (s3 : Nat) x, f_307_628 xs N h v1 v2 v3 s0 s1 s2 s3 = some x → pb_kk (fun (s_ : Int32 × pb_HP) => G 18 [(0, .retAddr 5), (1, .ref v1), (2, .ref v2), (3, .int s_.1)] [] s_.2) (fun (e_ : (Int32 × pb_HP) ⊕ (pb_HP)) => pb_kk (fun (q_ : Int32 × pb_HP) => q_ = (r, hE)) (fun (x_ : pb_HP) => G 2012 [] [] x_) e_) x → G 628 [(0, .retAddr 5), (1, .ref v1), (2, .ref v2), (3, .int v3)] [.int s0, .int s1, .int s2, .ref s3] h := by
    intro h v1 v2 v3 s0 s1 s2 s3 x hf hk
    unfold f_307_628 at hf
    refine hG.1 18 628 kb_307_628 _ _ _ rfl ?_
    obtain ⟨hg135, hf⟩ := pb_gd hf
    obtain ⟨⟨r136, h137⟩, cr136, hf⟩ := Option.bind_eq_some_iff.mp hf
    try dsimp only at hf
    refine And.intro hg135 (And.intro (Nat.le_of_ble_eq_true rfl) (And.intro (Nat.le_of_ble_eq_true rfl) (Exists.intro (some (.int r136)) (Exists.intro _ (And.intro (l_134 cr136) (?_))))))
    obtain ⟨hg138, hf⟩ := pb_gd hf
    obtain ⟨hg139, hf⟩ := pb_gd hf
    obtain ⟨hg140, hf⟩ := pb_gd hf
    refine And.intro hg138 (And.intro hg139 (And.intro hg140 (?_)))
    refine And.intro (fun (hc145 : (xs.getD (v3 + 3).toNatClampNeg 0) = 0) => ?_) (fun (hc145 : ¬ ((xs.getD (v3 + 3).toNatClampNeg 0) = 0)) => ?_)
    · rw [if_pos hc145] at hf
      refine hG.1 19 654 kb_307_654 _ _ _ rfl ?_
      exact hj_655 _ _ _ _ _ _ _ _ _ _ hf hk
    · rw [if_neg hc145] at hf
      exact hj_655 _ _ _ _ _ _ _ _ _ _ hf hk
  have hj_714 : ∀ (h : pb_HP) (v1 : Nat) (v2 : Nat) (v3 : Int32) (s0 : Int32) (s1 : Int32) (s2 : Int32) (s3 : Nat) (s4 : Int64) x, f_307_714 xs N h v1 v2 v3 s0 s1 s2 s3 s4 = some x → pb_kk (fun (s_ : Int32 × pb_HP) => G 18 [(0, .retAddr 5), (1, .ref v1), (2, .ref v2), (3, .int s_.1)] [] s_.2) (fun (e_ : (Int32 × pb_HP) ⊕ (pb_HP)) => pb_kk (fun (q_ : Int32 × pb_HP) => q_ = (r, hE)) (fun (x_ : pb_HP) => G 2012 [] [] x_) e_) x → G 714 [(0, .retAddr 5), (1, .ref v1), (2, .ref v2), (3, .int v3)] [.int s0, .int s1, .int s2, .ref s3, .long s4] h := by
    intro h v1 v2 v3 s0 s1 s2 s3 s4 x hf hk
    unfold f_307_714 at hf
    refine hG.1 25 714 kb_307_714 _ _ _ rfl ?_
    obtain ⟨hg157, hf⟩ := pb_gd hf
    obtain ⟨⟨r158, h159⟩, cr158, hf⟩ := Option.bind_eq_some_iff.mp hf
    try dsimp only at hf
    refine And.intro hg157 (And.intro (Nat.le_of_ble_eq_true rfl) (And.intro (Nat.le_of_ble_eq_true rfl) (Exists.intro (some (.long r158)) (Exists.intro _ (And.intro (l_235 cr158) (?_))))))
    refine And.intro (fun (hc160 : (lg_cmp s4 r158) = 0) => ?_) (fun (hc160 : ¬ ((lg_cmp s4 r158) = 0)) => ?_)
    · rw [if_pos hc160] at hf
      refine hG.1 98 2006 kb_307_2006 _ _ _ rfl ?_
      cases hf
      exact hk
    · rw [if_neg hc160] at hf
      cases hf
      cases hk
      exact And.intro (fun _ => Or.inl rfl) (And.intro rfl rfl)
  have hj_687 : ∀ (h : pb_HP) (v1 : Nat) (v2 : Nat) (v3 : Int32) (s0 : Int32) (s1 : Int32) (s2 : Int32) (s3 : Nat) x, f_307_687 xs N h v1 v2 v3 s0 s1 s2 s3 = some x → pb_kk (fun (s_ : Int32 × pb_HP) => G 18 [(0, .retAddr 5), (1, .ref v1), (2, .ref v2), (3, .int s_.1)] [] s_.2) (fun (e_ : (Int32 × pb_HP) ⊕ (pb_HP)) => pb_kk (fun (q_ : Int32 × pb_HP) => q_ = (r, hE)) (fun (x_ : pb_HP) => G 2012 [] [] x_) e_) x → G 687 [(0, .retAddr 5), (1, .ref v1), (2, .ref v2), (3, .int v3)] [.int s0, .int s1, .int s2, .ref s3] h := by
    intro h v1 v2 v3 s0 s1 s2 s3 x hf hk
    unfold f_307_687 at hf
    refine hG.1 23 687 kb_307_687 _ _ _ rfl ?_
    obtain ⟨hg151, hf⟩ := pb_gd hf
    obtain ⟨⟨r152, h153⟩, cr152, hf⟩ := Option.bind_eq_some_iff.mp hf
    try dsimp only at hf
    refine And.intro hg151 (And.intro (Nat.le_of_ble_eq_true rfl) (And.intro (Nat.le_of_ble_eq_true rfl) (Exists.intro (some (.long r152)) (Exists.intro _ (And.intro (l_135 cr152) (?_))))))
    obtain ⟨hg154, hf⟩ := pb_gd hf
    obtain ⟨hg155, hf⟩ := pb_gd hf
    obtain ⟨hg156, hf⟩ := pb_gd hf
    refine And.intro hg154 (And.intro hg155 (And.intro hg156 (?_)))
    refine And.intro (fun (hc161 : (xs.getD (v3 + 3).toNatClampNeg 0) = 0) => ?_) (fun (hc161 : ¬ ((xs.getD (v3 + 3).toNatClampNeg 0) = 0)) => ?_)
    · rw [if_pos hc161] at hf
      refine hG.1 24 713 kb_307_713 _ _ _ rfl ?_
      exact hj_714 _ _ _ _ _ _ _ _ _ _ hf hk
    · rw [if_neg hc161] at hf
      exact hj_714 _ _ _ _ _ _ _ _ _ _ hf hk
  have hj_764 : ∀ (h : pb_HP) (v1 : Nat) (v2 : Nat) (v3 : Int32) (s0 : Int32) (s1 : Int32) (s2 : Nat) (s3 : Int32) x, f_307_764 xs N h v1 v2 v3 s0 s1 s2 s3 = some x → pb_kk (fun (s_ : Int32 × pb_HP) => G 18 [(0, .retAddr 5), (1, .ref v1), (2, .ref v2), (3, .int s_.1)] [] s_.2) (fun (e_ : (Int32 × pb_HP) ⊕ (pb_HP)) => pb_kk (fun (q_ : Int32 × pb_HP) => q_ = (r, hE)) (fun (x_ : pb_HP) => G 2012 [] [] x_) e_) x → G 764 [(0, .retAddr 5), (1, .ref v1), (2, .ref v2), (3, .int v3)] [.int s0, .int s1, .ref s2, .int s3] h := by
    intro h v1 v2 v3 s0 s1 s2 s3 x hf hk
    unfold f_307_764 at hf
    refine hG.1 30 764 kb_307_764 _ _ _ rfl ?_
    obtain ⟨hg171, hf⟩ := pb_gd hf
    obtain ⟨⟨r172, h173⟩, cr172, hf⟩ := Option.bind_eq_some_iff.mp hf
    try dsimp only at hf
    refine And.intro hg171 (And.intro (Nat.le_of_ble_eq_true rfl) (And.intro (Nat.le_of_ble_eq_true rfl) (Exists.intro (some (.int r172)) (Exists.intro _ (And.intro (l_237 cr172) (?_))))))
    refine And.intro (fun (hc174 : s3 = r172) => ?_) (fun (hc174 : ¬ (s3 = r172)) => ?_)
    · rw [if_pos hc174] at hf
      refine hG.1 98 2006 kb_307_2006 _ _ _ rfl ?_
      cases hf
      exact hk
    · rw [if_neg hc174] at hf
      cases hf
      cases hk
      exact And.intro (fun _ => Or.inl rfl) (And.intro rfl rfl)
  have hj_742 : ∀ (h : pb_HP) (v1 : Nat) (v2 : Nat) (v3 : Int32) (s0 : Int32) (s1 : Int32) (s2 : Nat) x, f_307_742 xs N h v1 v2 v3 s0 s1 s2 = some x → pb_kk (fun (s_ : Int32 × pb_HP) => G 18 [(0, .retAddr 5), (1, .ref v1), (2, .ref v2), (3, .int s_.1)] [] s_.2) (fun (e_ : (Int32 × pb_HP) ⊕ (pb_HP)) => pb_kk (fun (q_ : Int32 × pb_HP) => q_ = (r, hE)) (fun (x_ : pb_HP) => G 2012 [] [] x_) e_) x → G 742 [(0, .retAddr 5), (1, .ref v1), (2, .ref v2), (3, .int v3)] [.int s0, .int s1, .ref s2] h := by
    intro h v1 v2 v3 s0 s1 s2 x hf hk
    unfold f_307_742 at hf
    refine hG.1 28 742 kb_307_742 _ _ _ rfl ?_
    obtain ⟨hg166, hf⟩ := pb_gd hf
    obtain ⟨⟨r167, h168⟩, cr167, hf⟩ := Option.bind_eq_some_iff.mp hf
    try dsimp only at hf
    refine And.intro hg166 (And.intro (Nat.le_of_ble_eq_true rfl) (And.intro (Nat.le_of_ble_eq_true rfl) (Exists.intro (some (.int r167)) (Exists.intro _ (And.intro (l_136 cr167) (?_))))))
    obtain ⟨hg169, hf⟩ := pb_gd hf
    obtain ⟨hg170, hf⟩ := pb_gd hf
    refine And.intro hg169 (And.intro hg170 (?_))
    refine And.intro (fun (hc175 : (xs.getD (v3 + 2).toNatClampNeg 0) = 0) => ?_) (fun (hc175 : ¬ ((xs.getD (v3 + 2).toNatClampNeg 0) = 0)) => ?_)
    · rw [if_pos hc175] at hf
      refine hG.1 29 763 kb_307_763 _ _ _ rfl ?_
      exact hj_764 _ _ _ _ _ _ _ _ _ hf hk
    · rw [if_neg hc175] at hf
      exact hj_764 _ _ _ _ _ _ _ _ _ hf hk
  have hj_843 : ∀ (h : pb_HP) (v1 : Nat) (v2 : Nat) (v3 : Int32) (s0 : Int32) (s1 : Int32) (s2 : Int32) (s3 : Int32) (s4 : Int32) (s5 : Nat) (s6 : Int32) x, f_307_843 xs N h v1 v2 v3 s0 s1 s2 s3 s4 s5 s6 = some x → pb_kk (fun (s_ : Int32 × pb_HP) => G 18 [(0, .retAddr 5), (1, .ref v1), (2, .ref v2), (3, .int s_.1)] [] s_.2) (fun (e_ : (Int32 × pb_HP) ⊕ (pb_HP)) => pb_kk (fun (q_ : Int32 × pb_HP) => q_ = (r, hE)) (fun (x_ : pb_HP) => G 2012 [] [] x_) e_) x → G 843 [(0, .retAddr 5), (1, .ref v1), (2, .ref v2), (3, .int v3)] [.int s0, .int s1, .int s2, .int s3, .int s4, .ref s5, .int s6] h := by
    intro h v1 v2 v3 s0 s1 s2 s3 s4 s5 s6 x hf hk
    unfold f_307_843 at hf
    refine hG.1 35 843 kb_307_843 _ _ _ rfl ?_
    obtain ⟨hg191, hf⟩ := pb_gd hf
    obtain ⟨⟨r192, h193⟩, cr192, hf⟩ := Option.bind_eq_some_iff.mp hf
    try dsimp only at hf
    refine And.intro hg191 (And.intro (Nat.le_of_ble_eq_true rfl) (And.intro (Nat.le_of_ble_eq_true rfl) (Exists.intro (some (.int r192)) (Exists.intro _ (And.intro (l_241 cr192) (?_))))))
    refine And.intro (fun (hc194 : s6 = r192) => ?_) (fun (hc194 : ¬ (s6 = r192)) => ?_)
    · rw [if_pos hc194] at hf
      refine hG.1 98 2006 kb_307_2006 _ _ _ rfl ?_
      cases hf
      exact hk
    · rw [if_neg hc194] at hf
      cases hf
      cases hk
      exact And.intro (fun _ => Or.inl rfl) (And.intro rfl rfl)
  have hj_806 : ∀ (h : pb_HP) (v1 : Nat) (v2 : Nat) (v3 : Int32) (s0 : Int32) (s1 : Int32) (s2 : Int32) (s3 : Int32) (s4 : Int32) (s5 : Nat) x, f_307_806 xs N h v1 v2 v3 s0 s1 s2 s3 s4 s5 = some x → pb_kk (fun (s_ : Int32 × pb_HP) => G 18 [(0, .retAddr 5), (1, .ref v1), (2, .ref v2), (3, .int s_.1)] [] s_.2) (fun (e_ : (Int32 × pb_HP) ⊕ (pb_HP)) => pb_kk (fun (q_ : Int32 × pb_HP) => q_ = (r, hE)) (fun (x_ : pb_HP) => G 2012 [] [] x_) e_) x → G 806 [(0, .retAddr 5), (1, .ref v1), (2, .ref v2), (3, .int v3)] [.int s0, .int s1, .int s2, .int s3, .int s4, .ref s5] h := by
    intro h v1 v2 v3 s0 s1 s2 s3 s4 s5 x hf hk
    unfold f_307_806 at hf
    refine hG.1 33 806 kb_307_806 _ _ _ rfl ?_
    obtain ⟨hg183, hf⟩ := pb_gd hf
    obtain ⟨⟨r184, h185⟩, cr184, hf⟩ := Option.bind_eq_some_iff.mp hf
    try dsimp only at hf
    refine And.intro hg183 (And.intro (Nat.le_of_ble_eq_true rfl) (And.intro (Nat.le_of_ble_eq_true rfl) (Exists.intro (some (.int r184)) (Exists.intro _ (And.intro (l_137 cr184) (?_))))))
    obtain ⟨hg186, hf⟩ := pb_gd hf
    obtain ⟨hg187, hf⟩ := pb_gd hf
    obtain ⟨hg188, hf⟩ := pb_gd hf
    obtain ⟨hg189, hf⟩ := pb_gd hf
    obtain ⟨hg190, hf⟩ := pb_gd hf
    refine And.intro hg186 (And.intro hg187 (And.intro hg188 (And.intro hg189 (And.intro hg190 (?_)))))
    refine And.intro (fun (hc195 : (xs.getD (v3 + 5).toNatClampNeg 0) = 0) => ?_) (fun (hc195 : ¬ ((xs.getD (v3 + 5).toNatClampNeg 0) = 0)) => ?_)
    · rw [if_pos hc195] at hf
      refine hG.1 34 842 kb_307_842 _ _ _ rfl ?_
      exact hj_843 _ _ _ _ _ _ _ _ _ _ _ _ hf hk
    · rw [if_neg hc195] at hf
      exact hj_843 _ _ _ _ _ _ _ _ _ _ _ _ hf hk
  have hj_938 : ∀ (h : pb_HP) (v1 : Nat) (v2 : Nat) (v3 : Int32) (s0 : Int32) (s1 : Int32) (s2 : Int32) (s3 : Int32) (s4 : Int32) (s5 : Nat) (s6 : Int64) x, f_307_938 xs N h v1 v2 v3 s0 s1 s2 s3 s4 s5 s6 = some x → pb_kk (fun (s_ : Int32 × pb_HP) => G 18 [(0, .retAddr 5), (1, .ref v1), (2, .ref v2), (3, .int s_.1)] [] s_.2) (fun (e_ : (Int32 × pb_HP) ⊕ (pb_HP)) => pb_kk (fun (q_ : Int32 × pb_HP) => q_ = (r, hE)) (fun (x_ : pb_HP) => G 2012 [] [] x_) e_) x → G 938 [(0, .retAddr 5), (1, .ref v1), (2, .ref v2), (3, .int v3)] [.int s0, .int s1, .int s2, .int s3, .int s4, .ref s5, .long s6] h := by
    intro h v1 v2 v3 s0 s1 s2 s3 s4 s5 s6 x hf hk
    unfold f_307_938 at hf
    refine hG.1 44 938 kb_307_938 _ _ _ rfl ?_
    obtain ⟨hg210, hf⟩ := pb_gd hf
    obtain ⟨⟨r211, h212⟩, cr211, hf⟩ := Option.bind_eq_some_iff.mp hf
    try dsimp only at hf
    refine And.intro hg210 (And.intro (Nat.le_of_ble_eq_true rfl) (And.intro (Nat.le_of_ble_eq_true rfl) (Exists.intro (some (.long r211)) (Exists.intro _ (And.intro (l_242 cr211) (?_))))))
    refine And.intro (fun (hc213 : (lg_cmp s6 r211) = 0) => ?_) (fun (hc213 : ¬ ((lg_cmp s6 r211) = 0)) => ?_)
    · rw [if_pos hc213] at hf
      refine hG.1 98 2006 kb_307_2006 _ _ _ rfl ?_
      cases hf
      exact hk
    · rw [if_neg hc213] at hf
      cases hf
      cases hk
      exact And.intro (fun _ => Or.inl rfl) (And.intro rfl rfl)
  have hj_925 : ∀ (h : pb_HP) (v1 : Nat) (v2 : Nat) (v3 : Int32) (s0 : Int32) (s1 : Int32) (s2 : Int32) (s3 : Int32) (s4 : Nat) (s5 : Int64) x, f_307_925 xs N h v1 v2 v3 s0 s1 s2 s3 s4 s5 = some x → pb_kk (fun (s_ : Int32 × pb_HP) => G 18 [(0, .retAddr 5), (1, .ref v1), (2, .ref v2), (3, .int s_.1)] [] s_.2) (fun (e_ : (Int32 × pb_HP) ⊕ (pb_HP)) => pb_kk (fun (q_ : Int32 × pb_HP) => q_ = (r, hE)) (fun (x_ : pb_HP) => G 2012 [] [] x_) e_) x → G 925 [(0, .retAddr 5), (1, .ref v1), (2, .ref v2), (3, .int v3)] [.int s0, .int s1, .int s2, .int s3, .ref s4, .long s5] h := by
    intro h v1 v2 v3 s0 s1 s2 s3 s4 s5 x hf hk
    unfold f_307_925 at hf
    refine hG.1 42 925 kb_307_925 _ _ _ rfl ?_
    obtain ⟨hg209, hf⟩ := pb_gd hf
    refine And.intro hg209 (?_)
    refine And.intro (fun (hc214 : (xs.getD (v3 + 5).toNatClampNeg 0) = 0) => ?_) (fun (hc214 : ¬ ((xs.getD (v3 + 5).toNatClampNeg 0) = 0)) => ?_)
    · rw [if_pos hc214] at hf
      refine hG.1 43 937 kb_307_937 _ _ _ rfl ?_
      exact hj_938 _ _ _ _ _ _ _ _ _ _ _ _ hf hk
    · rw [if_neg hc214] at hf
      exact hj_938 _ _ _ _ _ _ _ _ _ _ _ _ hf hk
  have hj_893 : ∀ (h : pb_HP) (v1 : Nat) (v2 : Nat) (v3 : Int32) (s0 : Int32) (s1 : Int32) (s2 : Int32) (s3 : Int32) (s4 : Int32) (s5 : Nat) x, f_307_893 xs N h v1 v2 v3 s0 s1 s2 s3 s4 s5 = some x → pb_kk (fun (s_ : Int32 × pb_HP) => G 18 [(0, .retAddr 5), (1, .ref v1), (2, .ref v2), (3, .int s_.1)] [] s_.2) (fun (e_ : (Int32 × pb_HP) ⊕ (pb_HP)) => pb_kk (fun (q_ : Int32 × pb_HP) => q_ = (r, hE)) (fun (x_ : pb_HP) => G 2012 [] [] x_) e_) x → G 893 [(0, .retAddr 5), (1, .ref v1), (2, .ref v2), (3, .int v3)] [.int s0, .int s1, .int s2, .int s3, .int s4, .ref s5] h := by
    intro h v1 v2 v3 s0 s1 s2 s3 s4 s5 x hf hk
    unfold f_307_893 at hf
    refine hG.1 40 893 kb_307_893 _ _ _ rfl ?_
    obtain ⟨hg203, hf⟩ := pb_gd hf
    obtain ⟨r204, cr204, hf⟩ := Option.bind_eq_some_iff.mp hf
    refine And.intro hg203 (And.intro (Nat.le_of_ble_eq_true rfl) (And.intro (Nat.le_of_ble_eq_true rfl) (Exists.intro (some (.long r204)) (Exists.intro _ (And.intro (l_138 cr204) (?_))))))
    obtain ⟨hg205, hf⟩ := pb_gd hf
    obtain ⟨hg206, hf⟩ := pb_gd hf
    obtain ⟨hg207, hf⟩ := pb_gd hf
    obtain ⟨hg208, hf⟩ := pb_gd hf
    refine And.intro hg205 (And.intro hg206 (And.intro hg207 (And.intro hg208 (?_))))
    refine And.intro (fun (hc215 : (xs.getD (v3 + 4).toNatClampNeg 0) = 0) => ?_) (fun (hc215 : ¬ ((xs.getD (v3 + 4).toNatClampNeg 0) = 0)) => ?_)
    · rw [if_pos hc215] at hf
      refine hG.1 41 924 kb_307_924 _ _ _ rfl ?_
      exact hj_925 _ _ _ _ _ _ _ _ _ _ _ hf hk
    · rw [if_neg hc215] at hf
      exact hj_925 _ _ _ _ _ _ _ _ _ _ _ hf hk
  have hj_880 : ∀ (h : pb_HP) (v1 : Nat) (v2 : Nat) (v3 : Int32) (s0 : Int32) (s1 : Int32) (s2 : Int32) (s3 : Int32) (s4 : Nat) x, f_307_880 xs N h v1 v2 v3 s0 s1 s2 s3 s4 = some x → pb_kk (fun (s_ : Int32 × pb_HP) => G 18 [(0, .retAddr 5), (1, .ref v1), (2, .ref v2), (3, .int s_.1)] [] s_.2) (fun (e_ : (Int32 × pb_HP) ⊕ (pb_HP)) => pb_kk (fun (q_ : Int32 × pb_HP) => q_ = (r, hE)) (fun (x_ : pb_HP) => G 2012 [] [] x_) e_) x → G 880 [(0, .retAddr 5), (1, .ref v1), (2, .ref v2), (3, .int v3)] [.int s0, .int s1, .int s2, .int s3, .ref s4] h := by
    intro h v1 v2 v3 s0 s1 s2 s3 s4 x hf hk
    unfold f_307_880 at hf
    refine hG.1 38 880 kb_307_880 _ _ _ rfl ?_
    obtain ⟨hg202, hf⟩ := pb_gd hf
    refine And.intro hg202 (?_)
    refine And.intro (fun (hc216 : (xs.getD (v3 + 5).toNatClampNeg 0) = 0) => ?_) (fun (hc216 : ¬ ((xs.getD (v3 + 5).toNatClampNeg 0) = 0)) => ?_)
    · rw [if_pos hc216] at hf
      refine hG.1 39 892 kb_307_892 _ _ _ rfl ?_
      exact hj_893 _ _ _ _ _ _ _ _ _ _ _ hf hk
    · rw [if_neg hc216] at hf
      exact hj_893 _ _ _ _ _ _ _ _ _ _ _ hf hk
  have hj_1269 : ∀ (h : pb_HP) (v1 : Nat) (v2 : Nat) (v3 : Int32) (s0 : Int32) (s1 : Int32) (s2 : Nat) (s3 : Int32) x, f_307_1269 xs N h v1 v2 v3 s0 s1 s2 s3 = some x → pb_kk (fun (s_ : Int32 × pb_HP) => G 18 [(0, .retAddr 5), (1, .ref v1), (2, .ref v2), (3, .int s_.1)] [] s_.2) (fun (e_ : (Int32 × pb_HP) ⊕ (pb_HP)) => pb_kk (fun (q_ : Int32 × pb_HP) => q_ = (r, hE)) (fun (x_ : pb_HP) => G 2012 [] [] x_) e_) x → G 1269 [(0, .retAddr 5), (1, .ref v1), (2, .ref v2), (3, .int v3)] [.int s0, .int s1, .ref s2, .int s3] h := by
    intro h v1 v2 v3 s0 s1 s2 s3 x hf hk
    unfold f_307_1269 at hf
    refine hG.1 56 1269 kb_307_1269 _ _ _ rfl ?_
    obtain ⟨hg315, hf⟩ := pb_gd hf
    obtain ⟨⟨r316, h317⟩, cr316, hf⟩ := Option.bind_eq_some_iff.mp hf
    try dsimp only at hf
    refine And.intro hg315 (And.intro (Nat.le_of_ble_eq_true rfl) (And.intro (Nat.le_of_ble_eq_true rfl) (Exists.intro (some (.int r316)) (Exists.intro _ (And.intro (l_274 cr316) (?_))))))
    refine And.intro (fun (hc318 : s3 = r316) => ?_) (fun (hc318 : ¬ (s3 = r316)) => ?_)
    · rw [if_pos hc318] at hf
      refine hG.1 98 2006 kb_307_2006 _ _ _ rfl ?_
      cases hf
      exact hk
    · rw [if_neg hc318] at hf
      cases hf
      cases hk
      exact And.intro (fun _ => Or.inl rfl) (And.intro rfl rfl)
  have hj_1247 : ∀ (h : pb_HP) (v1 : Nat) (v2 : Nat) (v3 : Int32) (s0 : Int32) (s1 : Int32) (s2 : Nat) x, f_307_1247 xs N h v1 v2 v3 s0 s1 s2 = some x → pb_kk (fun (s_ : Int32 × pb_HP) => G 18 [(0, .retAddr 5), (1, .ref v1), (2, .ref v2), (3, .int s_.1)] [] s_.2) (fun (e_ : (Int32 × pb_HP) ⊕ (pb_HP)) => pb_kk (fun (q_ : Int32 × pb_HP) => q_ = (r, hE)) (fun (x_ : pb_HP) => G 2012 [] [] x_) e_) x → G 1247 [(0, .retAddr 5), (1, .ref v1), (2, .ref v2), (3, .int v3)] [.int s0, .int s1, .ref s2] h := by
    intro h v1 v2 v3 s0 s1 s2 x hf hk
    unfold f_307_1247 at hf
    refine hG.1 54 1247 kb_307_1247 _ _ _ rfl ?_
    obtain ⟨hg311, hf⟩ := pb_gd hf
    obtain ⟨r312, cr312, hf⟩ := Option.bind_eq_some_iff.mp hf
    refine And.intro hg311 (And.intro (Nat.le_of_ble_eq_true rfl) (And.intro (Nat.le_of_ble_eq_true rfl) (Exists.intro (some (.int r312)) (Exists.intro _ (And.intro (l_146 cr312) (?_))))))
    obtain ⟨hg313, hf⟩ := pb_gd hf
    obtain ⟨hg314, hf⟩ := pb_gd hf
    refine And.intro hg313 (And.intro hg314 (?_))
    refine And.intro (fun (hc319 : (xs.getD (v3 + 2).toNatClampNeg 0) = 0) => ?_) (fun (hc319 : ¬ ((xs.getD (v3 + 2).toNatClampNeg 0) = 0)) => ?_)
    · rw [if_pos hc319] at hf
      refine hG.1 55 1268 kb_307_1268 _ _ _ rfl ?_
      exact hj_1269 _ _ _ _ _ _ _ _ _ hf hk
    · rw [if_neg hc319] at hf
      exact hj_1269 _ _ _ _ _ _ _ _ _ hf hk
  have hj_1394 : ∀ (h : pb_HP) (v1 : Nat) (v2 : Nat) (v3 : Int32) (s0 : Int32) (s1 : Int32) (s2 : Int32) (s3 : Nat) (s4 : Int64) x, f_307_1394 xs N h v1 v2 v3 s0 s1 s2 s3 s4 = some x → pb_kk (fun (s_ : Int32 × pb_HP) => G 18 [(0, .retAddr 5), (1, .ref v1), (2, .ref v2), (3, .int s_.1)] [] s_.2) (fun (e_ : (Int32 × pb_HP) ⊕ (pb_HP)) => pb_kk (fun (q_ : Int32 × pb_HP) => q_ = (r, hE)) (fun (x_ : pb_HP) => G 2012 [] [] x_) e_) x → G 1394 [(0, .retAddr 5), (1, .ref v1), (2, .ref v2), (3, .int v3)] [.int s0, .int s1, .int s2, .ref s3, .long s4] h := by
    intro h v1 v2 v3 s0 s1 s2 s3 s4 x hf hk
    unfold f_307_1394 at hf
    refine hG.1 63 1394 kb_307_1394 _ _ _ rfl ?_
    obtain ⟨hg348, hf⟩ := pb_gd hf
    obtain ⟨⟨r349, h350⟩, cr349, hf⟩ := Option.bind_eq_some_iff.mp hf
    try dsimp only at hf
    refine And.intro hg348 (And.intro (Nat.le_of_ble_eq_true rfl) (And.intro (Nat.le_of_ble_eq_true rfl) (Exists.intro (some (.long r349)) (Exists.intro _ (And.intro (l_277 cr349) (?_))))))
    refine And.intro (fun (hc351 : (lg_cmp s4 r349) = 0) => ?_) (fun (hc351 : ¬ ((lg_cmp s4 r349) = 0)) => ?_)
    · rw [if_pos hc351] at hf
      refine hG.1 98 2006 kb_307_2006 _ _ _ rfl ?_
      cases hf
      exact hk
    · rw [if_neg hc351] at hf
      cases hf
      cases hk
      exact And.intro (fun _ => Or.inl rfl) (And.intro rfl rfl)
  have hj_1367 : ∀ (h : pb_HP) (v1 : Nat) (v2 : Nat) (v3 : Int32) (s0 : Int32) (s1 : Int32) (s2 : Int32) (s3 : Nat) x, f_307_1367 xs N h v1 v2 v3 s0 s1 s2 s3 = some x → pb_kk (fun (s_ : Int32 × pb_HP) => G 18 [(0, .retAddr 5), (1, .ref v1), (2, .ref v2), (3, .int s_.1)] [] s_.2) (fun (e_ : (Int32 × pb_HP) ⊕ (pb_HP)) => pb_kk (fun (q_ : Int32 × pb_HP) => q_ = (r, hE)) (fun (x_ : pb_HP) => G 2012 [] [] x_) e_) x → G 1367 [(0, .retAddr 5), (1, .ref v1), (2, .ref v2), (3, .int v3)] [.int s0, .int s1, .int s2, .ref s3] h := by
    intro h v1 v2 v3 s0 s1 s2 s3 x hf hk
    unfold f_307_1367 at hf
    refine hG.1 61 1367 kb_307_1367 _ _ _ rfl ?_
    obtain ⟨hg343, hf⟩ := pb_gd hf
    obtain ⟨r344, cr344, hf⟩ := Option.bind_eq_some_iff.mp hf
    refine And.intro hg343 (And.intro (Nat.le_of_ble_eq_true rfl) (And.intro (Nat.le_of_ble_eq_true rfl) (Exists.intro (some (.long r344)) (Exists.intro _ (And.intro (l_149 cr344) (?_))))))
    obtain ⟨hg345, hf⟩ := pb_gd hf
    obtain ⟨hg346, hf⟩ := pb_gd hf
    obtain ⟨hg347, hf⟩ := pb_gd hf
    refine And.intro hg345 (And.intro hg346 (And.intro hg347 (?_)))
    refine And.intro (fun (hc352 : (xs.getD (v3 + 3).toNatClampNeg 0) = 0) => ?_) (fun (hc352 : ¬ ((xs.getD (v3 + 3).toNatClampNeg 0) = 0)) => ?_)
    · rw [if_pos hc352] at hf
      refine hG.1 62 1393 kb_307_1393 _ _ _ rfl ?_
      exact hj_1394 _ _ _ _ _ _ _ _ _ _ hf hk
    · rw [if_neg hc352] at hf
      exact hj_1394 _ _ _ _ _ _ _ _ _ _ hf hk
  have hj_1616 : ∀ (h : pb_HP) (v1 : Nat) (v2 : Nat) (v3 : Int32) (s0 : Int32) (s1 : Int32) (s2 : Int32) (s3 : Int32) (s4 : Nat) (s5 : Int32) x, f_307_1616 xs N h v1 v2 v3 s0 s1 s2 s3 s4 s5 = some x → pb_kk (fun (s_ : Int32 × pb_HP) => G 18 [(0, .retAddr 5), (1, .ref v1), (2, .ref v2), (3, .int s_.1)] [] s_.2) (fun (e_ : (Int32 × pb_HP) ⊕ (pb_HP)) => pb_kk (fun (q_ : Int32 × pb_HP) => q_ = (r, hE)) (fun (x_ : pb_HP) => G 2012 [] [] x_) e_) x → G 1616 [(0, .retAddr 5), (1, .ref v1), (2, .ref v2), (3, .int v3)] [.int s0, .int s1, .int s2, .int s3, .ref s4, .int s5] h := by
    intro h v1 v2 v3 s0 s1 s2 s3 s4 s5 x hf hk
    unfold f_307_1616 at hf
    refine hG.1 72 1616 kb_307_1616 _ _ _ rfl ?_
    obtain ⟨hg410, hf⟩ := pb_gd hf
    obtain ⟨⟨r411, h412⟩, cr411, hf⟩ := Option.bind_eq_some_iff.mp hf
    try dsimp only at hf
    refine And.intro hg410 (And.intro (Nat.le_of_ble_eq_true rfl) (And.intro (Nat.le_of_ble_eq_true rfl) (Exists.intro (some (.int r411)) (Exists.intro _ (And.intro (l_287 cr411) (?_))))))
    refine And.intro (fun (hc413 : s5 = r411) => ?_) (fun (hc413 : ¬ (s5 = r411)) => ?_)
    · rw [if_pos hc413] at hf
      refine hG.1 98 2006 kb_307_2006 _ _ _ rfl ?_
      cases hf
      exact hk
    · rw [if_neg hc413] at hf
      cases hf
      cases hk
      exact And.intro (fun _ => Or.inl rfl) (And.intro rfl rfl)
  have hj_1584 : ∀ (h : pb_HP) (v1 : Nat) (v2 : Nat) (v3 : Int32) (s0 : Int32) (s1 : Int32) (s2 : Int32) (s3 : Int32) (s4 : Nat) x, f_307_1584 xs N h v1 v2 v3 s0 s1 s2 s3 s4 = some x → pb_kk (fun (s_ : Int32 × pb_HP) => G 18 [(0, .retAddr 5), (1, .ref v1), (2, .ref v2), (3, .int s_.1)] [] s_.2) (fun (e_ : (Int32 × pb_HP) ⊕ (pb_HP)) => pb_kk (fun (q_ : Int32 × pb_HP) => q_ = (r, hE)) (fun (x_ : pb_HP) => G 2012 [] [] x_) e_) x → G 1584 [(0, .retAddr 5), (1, .ref v1), (2, .ref v2), (3, .int v3)] [.int s0, .int s1, .int s2, .int s3, .ref s4] h := by
    intro h v1 v2 v3 s0 s1 s2 s3 s4 x hf hk
    unfold f_307_1584 at hf
    refine hG.1 70 1584 kb_307_1584 _ _ _ rfl ?_
    obtain ⟨hg404, hf⟩ := pb_gd hf
    obtain ⟨r405, cr405, hf⟩ := Option.bind_eq_some_iff.mp hf
    refine And.intro hg404 (And.intro (Nat.le_of_ble_eq_true rfl) (And.intro (Nat.le_of_ble_eq_true rfl) (Exists.intro (some (.int r405)) (Exists.intro _ (And.intro (l_154 cr405) (?_))))))
    obtain ⟨hg406, hf⟩ := pb_gd hf
    obtain ⟨hg407, hf⟩ := pb_gd hf
    obtain ⟨hg408, hf⟩ := pb_gd hf
    obtain ⟨hg409, hf⟩ := pb_gd hf
    refine And.intro hg406 (And.intro hg407 (And.intro hg408 (And.intro hg409 (?_))))
    refine And.intro (fun (hc414 : (xs.getD (v3 + 4).toNatClampNeg 0) = 0) => ?_) (fun (hc414 : ¬ ((xs.getD (v3 + 4).toNatClampNeg 0) = 0)) => ?_)
    · rw [if_pos hc414] at hf
      refine hG.1 71 1615 kb_307_1615 _ _ _ rfl ?_
      exact hj_1616 _ _ _ _ _ _ _ _ _ _ _ hf hk
    · rw [if_neg hc414] at hf
      exact hj_1616 _ _ _ _ _ _ _ _ _ _ _ hf hk
  have hj_1708 : ∀ (h : pb_HP) (v1 : Nat) (v2 : Nat) (v3 : Int32) (s0 : Int32) (s1 : Int32) (s2 : Int32) (s3 : Nat) (s4 : Int32) x, f_307_1708 xs N h v1 v2 v3 s0 s1 s2 s3 s4 = some x → pb_kk (fun (s_ : Int32 × pb_HP) => G 18 [(0, .retAddr 5), (1, .ref v1), (2, .ref v2), (3, .int s_.1)] [] s_.2) (fun (e_ : (Int32 × pb_HP) ⊕ (pb_HP)) => pb_kk (fun (q_ : Int32 × pb_HP) => q_ = (r, hE)) (fun (x_ : pb_HP) => G 2012 [] [] x_) e_) x → G 1708 [(0, .retAddr 5), (1, .ref v1), (2, .ref v2), (3, .int v3)] [.int s0, .int s1, .int s2, .ref s3, .int s4] h := by
    intro h v1 v2 v3 s0 s1 s2 s3 s4 x hf hk
    unfold f_307_1708 at hf
    refine hG.1 78 1708 kb_307_1708 _ _ _ rfl ?_
    obtain ⟨hg438, hf⟩ := pb_gd hf
    obtain ⟨⟨r439, h440⟩, cr439, hf⟩ := Option.bind_eq_some_iff.mp hf
    try dsimp only at hf
    refine And.intro hg438 (And.intro (Nat.le_of_ble_eq_true rfl) (And.intro (Nat.le_of_ble_eq_true rfl) (Exists.intro (some (.int r439)) (Exists.intro _ (And.intro (l_293 cr439) (?_))))))
    refine And.intro (fun (hc441 : s4 = r439) => ?_) (fun (hc441 : ¬ (s4 = r439)) => ?_)
    · rw [if_pos hc441] at hf
      refine hG.1 98 2006 kb_307_2006 _ _ _ rfl ?_
      cases hf
      exact hk
    · rw [if_neg hc441] at hf
      cases hf
      cases hk
      exact And.intro (fun _ => Or.inl rfl) (And.intro rfl rfl)
  have hj_1681 : ∀ (h : pb_HP) (v1 : Nat) (v2 : Nat) (v3 : Int32) (s0 : Int32) (s1 : Int32) (s2 : Int32) (s3 : Nat) x, f_307_1681 xs N h v1 v2 v3 s0 s1 s2 s3 = some x → pb_kk (fun (s_ : Int32 × pb_HP) => G 18 [(0, .retAddr 5), (1, .ref v1), (2, .ref v2), (3, .int s_.1)] [] s_.2) (fun (e_ : (Int32 × pb_HP) ⊕ (pb_HP)) => pb_kk (fun (q_ : Int32 × pb_HP) => q_ = (r, hE)) (fun (x_ : pb_HP) => G 2012 [] [] x_) e_) x → G 1681 [(0, .retAddr 5), (1, .ref v1), (2, .ref v2), (3, .int v3)] [.int s0, .int s1, .int s2, .ref s3] h := by
    intro h v1 v2 v3 s0 s1 s2 s3 x hf hk
    unfold f_307_1681 at hf
    refine hG.1 76 1681 kb_307_1681 _ _ _ rfl ?_
    obtain ⟨hg432, hf⟩ := pb_gd hf
    obtain ⟨⟨r433, h434⟩, cr433, hf⟩ := Option.bind_eq_some_iff.mp hf
    try dsimp only at hf
    refine And.intro hg432 (And.intro (Nat.le_of_ble_eq_true rfl) (And.intro (Nat.le_of_ble_eq_true rfl) (Exists.intro (some (.int r433)) (Exists.intro _ (And.intro (l_156 cr433) (?_))))))
    obtain ⟨hg435, hf⟩ := pb_gd hf
    obtain ⟨hg436, hf⟩ := pb_gd hf
    obtain ⟨hg437, hf⟩ := pb_gd hf
    refine And.intro hg435 (And.intro hg436 (And.intro hg437 (?_)))
    refine And.intro (fun (hc442 : (xs.getD (v3 + 3).toNatClampNeg 0) = 0) => ?_) (fun (hc442 : ¬ ((xs.getD (v3 + 3).toNatClampNeg 0) = 0)) => ?_)
    · rw [if_pos hc442] at hf
      refine hG.1 77 1707 kb_307_1707 _ _ _ rfl ?_
      exact hj_1708 _ _ _ _ _ _ _ _ _ _ hf hk
    · rw [if_neg hc442] at hf
      exact hj_1708 _ _ _ _ _ _ _ _ _ _ hf hk
  have hj_1767 : ∀ (h : pb_HP) (v1 : Nat) (v2 : Nat) (v3 : Int32) (s0 : Int32) (s1 : Int32) (s2 : Int32) (s3 : Nat) (s4 : Int32) x, f_307_1767 xs N h v1 v2 v3 s0 s1 s2 s3 s4 = some x → pb_kk (fun (s_ : Int32 × pb_HP) => G 18 [(0, .retAddr 5), (1, .ref v1), (2, .ref v2), (3, .int s_.1)] [] s_.2) (fun (e_ : (Int32 × pb_HP) ⊕ (pb_HP)) => pb_kk (fun (q_ : Int32 × pb_HP) => q_ = (r, hE)) (fun (x_ : pb_HP) => G 2012 [] [] x_) e_) x → G 1767 [(0, .retAddr 5), (1, .ref v1), (2, .ref v2), (3, .int v3)] [.int s0, .int s1, .int s2, .ref s3, .int s4] h := by
    intro h v1 v2 v3 s0 s1 s2 s3 s4 x hf hk
    unfold f_307_1767 at hf
    refine hG.1 83 1767 kb_307_1767 _ _ _ rfl ?_
    obtain ⟨hg454, hf⟩ := pb_gd hf
    obtain ⟨⟨r455, h456⟩, cr455, hf⟩ := Option.bind_eq_some_iff.mp hf
    try dsimp only at hf
    refine And.intro hg454 (And.intro (Nat.le_of_ble_eq_true rfl) (And.intro (Nat.le_of_ble_eq_true rfl) (Exists.intro (some (.int r455)) (Exists.intro _ (And.intro (l_294 cr455) (?_))))))
    refine And.intro (fun (hc457 : s4 = r455) => ?_) (fun (hc457 : ¬ (s4 = r455)) => ?_)
    · rw [if_pos hc457] at hf
      refine hG.1 98 2006 kb_307_2006 _ _ _ rfl ?_
      cases hf
      exact hk
    · rw [if_neg hc457] at hf
      cases hf
      cases hk
      exact And.intro (fun _ => Or.inl rfl) (And.intro rfl rfl)
  have hj_1740 : ∀ (h : pb_HP) (v1 : Nat) (v2 : Nat) (v3 : Int32) (s0 : Int32) (s1 : Int32) (s2 : Int32) (s3 : Nat) x, f_307_1740 xs N h v1 v2 v3 s0 s1 s2 s3 = some x → pb_kk (fun (s_ : Int32 × pb_HP) => G 18 [(0, .retAddr 5), (1, .ref v1), (2, .ref v2), (3, .int s_.1)] [] s_.2) (fun (e_ : (Int32 × pb_HP) ⊕ (pb_HP)) => pb_kk (fun (q_ : Int32 × pb_HP) => q_ = (r, hE)) (fun (x_ : pb_HP) => G 2012 [] [] x_) e_) x → G 1740 [(0, .retAddr 5), (1, .ref v1), (2, .ref v2), (3, .int v3)] [.int s0, .int s1, .int s2, .ref s3] h := by
    intro h v1 v2 v3 s0 s1 s2 s3 x hf hk
    unfold f_307_1740 at hf
    refine hG.1 81 1740 kb_307_1740 _ _ _ rfl ?_
    obtain ⟨hg448, hf⟩ := pb_gd hf
    obtain ⟨⟨r449, h450⟩, cr449, hf⟩ := Option.bind_eq_some_iff.mp hf
    try dsimp only at hf
    refine And.intro hg448 (And.intro (Nat.le_of_ble_eq_true rfl) (And.intro (Nat.le_of_ble_eq_true rfl) (Exists.intro (some (.int r449)) (Exists.intro _ (And.intro (l_157 cr449) (?_))))))
    obtain ⟨hg451, hf⟩ := pb_gd hf
    obtain ⟨hg452, hf⟩ := pb_gd hf
    obtain ⟨hg453, hf⟩ := pb_gd hf
    refine And.intro hg451 (And.intro hg452 (And.intro hg453 (?_)))
    refine And.intro (fun (hc458 : (xs.getD (v3 + 3).toNatClampNeg 0) = 0) => ?_) (fun (hc458 : ¬ ((xs.getD (v3 + 3).toNatClampNeg 0) = 0)) => ?_)
    · rw [if_pos hc458] at hf
      refine hG.1 82 1766 kb_307_1766 _ _ _ rfl ?_
      exact hj_1767 _ _ _ _ _ _ _ _ _ _ hf hk
    · rw [if_neg hc458] at hf
      exact hj_1767 _ _ _ _ _ _ _ _ _ _ hf hk
  have hj_1879 : ∀ (h : pb_HP) (v1 : Nat) (v2 : Nat) (v3 : Int32) (s0 : Int32) (s1 : Int32) (s2 : Int32) (s3 : Int32) (s4 : Nat) (s5 : Int64) x, f_307_1879 xs N h v1 v2 v3 s0 s1 s2 s3 s4 s5 = some x → pb_kk (fun (s_ : Int32 × pb_HP) => G 18 [(0, .retAddr 5), (1, .ref v1), (2, .ref v2), (3, .int s_.1)] [] s_.2) (fun (e_ : (Int32 × pb_HP) ⊕ (pb_HP)) => pb_kk (fun (q_ : Int32 × pb_HP) => q_ = (r, hE)) (fun (x_ : pb_HP) => G 2012 [] [] x_) e_) x → G 1879 [(0, .retAddr 5), (1, .ref v1), (2, .ref v2), (3, .int v3)] [.int s0, .int s1, .int s2, .int s3, .ref s4, .long s5] h := by
    intro h v1 v2 v3 s0 s1 s2 s3 s4 s5 x hf hk
    unfold f_307_1879 at hf
    refine hG.1 89 1879 kb_307_1879 _ _ _ rfl ?_
    obtain ⟨hg486, hf⟩ := pb_gd hf
    obtain ⟨⟨r487, h488⟩, cr487, hf⟩ := Option.bind_eq_some_iff.mp hf
    try dsimp only at hf
    refine And.intro hg486 (And.intro (Nat.le_of_ble_eq_true rfl) (And.intro (Nat.le_of_ble_eq_true rfl) (Exists.intro (some (.long r487)) (Exists.intro _ (And.intro (l_300 cr487) (?_))))))
    refine And.intro (fun (hc489 : (lg_cmp s5 r487) = 0) => ?_) (fun (hc489 : ¬ ((lg_cmp s5 r487) = 0)) => ?_)
    · rw [if_pos hc489] at hf
      refine hG.1 98 2006 kb_307_2006 _ _ _ rfl ?_
      cases hf
      exact hk
    · rw [if_neg hc489] at hf
      cases hf
      cases hk
      exact And.intro (fun _ => Or.inl rfl) (And.intro rfl rfl)
  have hj_1847 : ∀ (h : pb_HP) (v1 : Nat) (v2 : Nat) (v3 : Int32) (s0 : Int32) (s1 : Int32) (s2 : Int32) (s3 : Int32) (s4 : Nat) x, f_307_1847 xs N h v1 v2 v3 s0 s1 s2 s3 s4 = some x → pb_kk (fun (s_ : Int32 × pb_HP) => G 18 [(0, .retAddr 5), (1, .ref v1), (2, .ref v2), (3, .int s_.1)] [] s_.2) (fun (e_ : (Int32 × pb_HP) ⊕ (pb_HP)) => pb_kk (fun (q_ : Int32 × pb_HP) => q_ = (r, hE)) (fun (x_ : pb_HP) => G 2012 [] [] x_) e_) x → G 1847 [(0, .retAddr 5), (1, .ref v1), (2, .ref v2), (3, .int v3)] [.int s0, .int s1, .int s2, .int s3, .ref s4] h := by
    intro h v1 v2 v3 s0 s1 s2 s3 s4 x hf hk
    unfold f_307_1847 at hf
    refine hG.1 87 1847 kb_307_1847 _ _ _ rfl ?_
    obtain ⟨hg479, hf⟩ := pb_gd hf
    obtain ⟨⟨r480, h481⟩, cr480, hf⟩ := Option.bind_eq_some_iff.mp hf
    try dsimp only at hf
    refine And.intro hg479 (And.intro (Nat.le_of_ble_eq_true rfl) (And.intro (Nat.le_of_ble_eq_true rfl) (Exists.intro (some (.long r480)) (Exists.intro _ (And.intro (l_159 cr480) (?_))))))
    obtain ⟨hg482, hf⟩ := pb_gd hf
    obtain ⟨hg483, hf⟩ := pb_gd hf
    obtain ⟨hg484, hf⟩ := pb_gd hf
    obtain ⟨hg485, hf⟩ := pb_gd hf
    refine And.intro hg482 (And.intro hg483 (And.intro hg484 (And.intro hg485 (?_))))
    refine And.intro (fun (hc490 : (xs.getD (v3 + 4).toNatClampNeg 0) = 0) => ?_) (fun (hc490 : ¬ ((xs.getD (v3 + 4).toNatClampNeg 0) = 0)) => ?_)
    · rw [if_pos hc490] at hf
      refine hG.1 88 1878 kb_307_1878 _ _ _ rfl ?_
      exact hj_1879 _ _ _ _ _ _ _ _ _ _ _ hf hk
    · rw [if_neg hc490] at hf
      exact hj_1879 _ _ _ _ _ _ _ _ _ _ _ hf hk
  have hj_1929 : ∀ (h : pb_HP) (v1 : Nat) (v2 : Nat) (v3 : Int32) (s0 : Int32) (s1 : Int32) (s2 : Nat) (s3 : Int32) x, f_307_1929 xs N h v1 v2 v3 s0 s1 s2 s3 = some x → pb_kk (fun (s_ : Int32 × pb_HP) => G 18 [(0, .retAddr 5), (1, .ref v1), (2, .ref v2), (3, .int s_.1)] [] s_.2) (fun (e_ : (Int32 × pb_HP) ⊕ (pb_HP)) => pb_kk (fun (q_ : Int32 × pb_HP) => q_ = (r, hE)) (fun (x_ : pb_HP) => G 2012 [] [] x_) e_) x → G 1929 [(0, .retAddr 5), (1, .ref v1), (2, .ref v2), (3, .int v3)] [.int s0, .int s1, .ref s2, .int s3] h := by
    intro h v1 v2 v3 s0 s1 s2 s3 x hf hk
    unfold f_307_1929 at hf
    refine hG.1 94 1929 kb_307_1929 _ _ _ rfl ?_
    obtain ⟨hg500, hf⟩ := pb_gd hf
    obtain ⟨⟨r501, h502⟩, cr501, hf⟩ := Option.bind_eq_some_iff.mp hf
    try dsimp only at hf
    refine And.intro hg500 (And.intro (Nat.le_of_ble_eq_true rfl) (And.intro (Nat.le_of_ble_eq_true rfl) (Exists.intro (some (.int r501)) (Exists.intro _ (And.intro (l_301 cr501) (?_))))))
    refine And.intro (fun (hc503 : s3 = r501) => ?_) (fun (hc503 : ¬ (s3 = r501)) => ?_)
    · rw [if_pos hc503] at hf
      refine hG.1 98 2006 kb_307_2006 _ _ _ rfl ?_
      cases hf
      exact hk
    · rw [if_neg hc503] at hf
      cases hf
      cases hk
      exact And.intro (fun _ => Or.inl rfl) (And.intro rfl rfl)
  have hj_1907 : ∀ (h : pb_HP) (v1 : Nat) (v2 : Nat) (v3 : Int32) (s0 : Int32) (s1 : Int32) (s2 : Nat) x, f_307_1907 xs N h v1 v2 v3 s0 s1 s2 = some x → pb_kk (fun (s_ : Int32 × pb_HP) => G 18 [(0, .retAddr 5), (1, .ref v1), (2, .ref v2), (3, .int s_.1)] [] s_.2) (fun (e_ : (Int32 × pb_HP) ⊕ (pb_HP)) => pb_kk (fun (q_ : Int32 × pb_HP) => q_ = (r, hE)) (fun (x_ : pb_HP) => G 2012 [] [] x_) e_) x → G 1907 [(0, .retAddr 5), (1, .ref v1), (2, .ref v2), (3, .int v3)] [.int s0, .int s1, .ref s2] h := by
    intro h v1 v2 v3 s0 s1 s2 x hf hk
    unfold f_307_1907 at hf
    refine hG.1 92 1907 kb_307_1907 _ _ _ rfl ?_
    obtain ⟨hg495, hf⟩ := pb_gd hf
    obtain ⟨⟨r496, h497⟩, cr496, hf⟩ := Option.bind_eq_some_iff.mp hf
    try dsimp only at hf
    refine And.intro hg495 (And.intro (Nat.le_of_ble_eq_true rfl) (And.intro (Nat.le_of_ble_eq_true rfl) (Exists.intro (some (.int r496)) (Exists.intro _ (And.intro (l_160 cr496) (?_))))))
    obtain ⟨hg498, hf⟩ := pb_gd hf
    obtain ⟨hg499, hf⟩ := pb_gd hf
    refine And.intro hg498 (And.intro hg499 (?_))
    refine And.intro (fun (hc504 : (xs.getD (v3 + 2).toNatClampNeg 0) = 0) => ?_) (fun (hc504 : ¬ ((xs.getD (v3 + 2).toNatClampNeg 0) = 0)) => ?_)
    · rw [if_pos hc504] at hf
      refine hG.1 93 1928 kb_307_1928 _ _ _ rfl ?_
      exact hj_1929 _ _ _ _ _ _ _ _ _ hf hk
    · rw [if_neg hc504] at hf
      exact hj_1929 _ _ _ _ _ _ _ _ _ hf hk
  have hl_18 : ∀ (v1 : Nat) (v2 : Nat) (n_ : Nat) (s : Int32 × pb_HP) (e : (Int32 × pb_HP) ⊕ (pb_HP)), pb_wl (f_307_18s xs N v1 v2) n_ s = some e → pb_kk (fun (q_ : Int32 × pb_HP) => q_ = (r, hE)) (fun (x_ : pb_HP) => G 2012 [] [] x_) e → G 18 [(0, .retAddr 5), (1, .ref v1), (2, .ref v2), (3, .int s.1)] [] s.2 := by
    intro v1 v2
    refine pb_wl_ind (I := fun (s : Int32 × pb_HP) => G 18 [(0, .retAddr 5), (1, .ref v1), (2, .ref v2), (3, .int s.1)] [] s.2) (K := fun (e : (Int32 × pb_HP) ⊕ (pb_HP)) => pb_kk (fun (q_ : Int32 × pb_HP) => q_ = (r, hE)) (fun (x_ : pb_HP) => G 2012 [] [] x_) e) (fun s x hf hk => ?_)
    unfold f_307_18s at hf
    refine hG.1 1 18 kb_307_18 _ _ _ rfl ?_
    refine And.intro (And.intro (by decide) (by decide)) (?_)
    refine And.intro (fun (hc534 : ((Int32.ofNat xs.length) - 6) < s.1) => ?_) (fun (hc534 : ¬ (((Int32.ofNat xs.length) - 6) < s.1)) => ?_)
    · rw [if_pos hc534] at hf
      cases hf
      exact hG.2 2012 _ [] _ _ _ rfl hk
    · rw [if_neg hc534] at hf
      obtain ⟨hg7, hf⟩ := pb_gd hf
      refine And.intro hg7 (?_)
      by_cases hc8 : ((xs.getD s.1.toNatClampNeg 0) &&& 63) = 0
      · rw [if_pos hc8] at hf
        refine pb_gs (G := G) (tgt := 208) (show pb_swt 33 1973 0 39 #[175, 238, 261, 294, 317, 350, 393, 426, 479, 512, 571, 630, 690, 739, 818, 914, 957, 990, 1043, 1086, 1119, 1152, 1195, 1244, 1277, 1310, 1370, 1413, 1446, 1489, 1522, 1591, 1624, 1683, 1742, 1785, 1855, 1904, 1927, 1950] ((xs.getD s.1.toNatClampNeg 0) &&& 63) = 208 by rw [hc8]; decide) ?_
        refine hG.1 2 208 kb_307_208 _ _ _ rfl ?_
        obtain ⟨hg9, hf⟩ := pb_gd hf
        obtain ⟨hg10, hf⟩ := pb_gd hf
        obtain ⟨hg11, hf⟩ := pb_gd hf
        obtain ⟨hg12, hf⟩ := pb_gd hf
        obtain ⟨hg13, hf⟩ := pb_gd hf
        obtain ⟨hg14, hf⟩ := pb_gd hf
        refine And.intro hg9 (And.intro hg10 (And.intro hg11 (And.intro hg12 (And.intro hg13 (?_)))))
        obtain ⟨⟨r15, h16⟩, cr15, hf⟩ := Option.bind_eq_some_iff.mp hf
        try dsimp only at hf
        refine And.intro hg14 (And.intro (Nat.le_of_ble_eq_true rfl) (And.intro (Nat.le_of_ble_eq_true rfl) (Exists.intro (some (.int r15)) (Exists.intro _ (And.intro (l_124 cr15) (?_))))))
        obtain ⟨hg17, hf⟩ := pb_gd hf
        obtain ⟨hg18, hf⟩ := pb_gd hf
        obtain ⟨hg19, hf⟩ := pb_gd hf
        obtain ⟨hg20, hf⟩ := pb_gd hf
        obtain ⟨hg21, hf⟩ := pb_gd hf
        obtain ⟨hg22, hf⟩ := pb_gd hf
        refine And.intro hg17 (And.intro hg18 (And.intro hg19 (And.intro hg20 (And.intro hg21 (?_)))))
        obtain ⟨⟨r23, h24⟩, cr23, hf⟩ := Option.bind_eq_some_iff.mp hf
        try dsimp only at hf
        refine And.intro hg22 (And.intro (Nat.le_of_ble_eq_true rfl) (And.intro (Nat.le_of_ble_eq_true rfl) (Exists.intro (some (.int r23)) (Exists.intro _ (And.intro (l_176 cr23) (?_))))))
        refine And.intro (fun (hc25 : r15 = r23) => ?_) (fun (hc25 : ¬ (r15 = r23)) => ?_)
        · rw [if_pos hc25] at hf
          refine hG.1 98 2006 kb_307_2006 _ _ _ rfl ?_
          cases hf
          exact hk
        · rw [if_neg hc25] at hf
          cases hf
          cases hk
          exact And.intro (fun _ => Or.inl rfl) (And.intro rfl rfl)
      rw [if_neg hc8] at hf
      by_cases hc26 : ((xs.getD s.1.toNatClampNeg 0) &&& 63) = 1
      · rw [if_pos hc26] at hf
        refine pb_gs (G := G) (tgt := 271) (show pb_swt 33 1973 0 39 #[175, 238, 261, 294, 317, 350, 393, 426, 479, 512, 571, 630, 690, 739, 818, 914, 957, 990, 1043, 1086, 1119, 1152, 1195, 1244, 1277, 1310, 1370, 1413, 1446, 1489, 1522, 1591, 1624, 1683, 1742, 1785, 1855, 1904, 1927, 1950] ((xs.getD s.1.toNatClampNeg 0) &&& 63) = 271 by rw [hc26]; decide) ?_
        refine hG.1 3 271 kb_307_271 _ _ _ rfl ?_
        obtain ⟨hg27, hf⟩ := pb_gd hf
        obtain ⟨hg28, hf⟩ := pb_gd hf
        refine And.intro hg27 (?_)
        obtain ⟨⟨r29, h30⟩, cr29, hf⟩ := Option.bind_eq_some_iff.mp hf
        try dsimp only at hf
        refine And.intro hg28 (And.intro (Nat.le_of_ble_eq_true rfl) (And.intro (Nat.le_of_ble_eq_true rfl) (Exists.intro (some (.int r29)) (Exists.intro _ (And.intro (l_125 cr29) (?_))))))
        obtain ⟨hg31, hf⟩ := pb_gd hf
        obtain ⟨hg32, hf⟩ := pb_gd hf
        refine And.intro hg31 (?_)
        obtain ⟨⟨r33, h34⟩, cr33, hf⟩ := Option.bind_eq_some_iff.mp hf
        try dsimp only at hf
        refine And.intro hg32 (And.intro (Nat.le_of_ble_eq_true rfl) (And.intro (Nat.le_of_ble_eq_true rfl) (Exists.intro (some (.int r33)) (Exists.intro _ (And.intro (l_178 cr33) (?_))))))
        refine And.intro (fun (hc35 : r29 = r33) => ?_) (fun (hc35 : ¬ (r29 = r33)) => ?_)
        · rw [if_pos hc35] at hf
          refine hG.1 98 2006 kb_307_2006 _ _ _ rfl ?_
          cases hf
          exact hk
        · rw [if_neg hc35] at hf
          cases hf
          cases hk
          exact And.intro (fun _ => Or.inl rfl) (And.intro rfl rfl)
      rw [if_neg hc26] at hf
      by_cases hc36 : ((xs.getD s.1.toNatClampNeg 0) &&& 63) = 2
      · rw [if_pos hc36] at hf
        refine pb_gs (G := G) (tgt := 294) (show pb_swt 33 1973 0 39 #[175, 238, 261, 294, 317, 350, 393, 426, 479, 512, 571, 630, 690, 739, 818, 914, 957, 990, 1043, 1086, 1119, 1152, 1195, 1244, 1277, 1310, 1370, 1413, 1446, 1489, 1522, 1591, 1624, 1683, 1742, 1785, 1855, 1904, 1927, 1950] ((xs.getD s.1.toNatClampNeg 0) &&& 63) = 294 by rw [hc36]; decide) ?_
        refine hG.1 4 294 kb_307_294 _ _ _ rfl ?_
        obtain ⟨hg37, hf⟩ := pb_gd hf
        obtain ⟨hg38, hf⟩ := pb_gd hf
        obtain ⟨hg39, hf⟩ := pb_gd hf
        refine And.intro hg37 (And.intro hg38 (?_))
        obtain ⟨⟨r40, h41⟩, cr40, hf⟩ := Option.bind_eq_some_iff.mp hf
        try dsimp only at hf
        refine And.intro hg39 (And.intro (Nat.le_of_ble_eq_true rfl) (And.intro (Nat.le_of_ble_eq_true rfl) (Exists.intro (some (.int r40)) (Exists.intro _ (And.intro (l_126 cr40) (?_))))))
        obtain ⟨hg42, hf⟩ := pb_gd hf
        obtain ⟨hg43, hf⟩ := pb_gd hf
        obtain ⟨hg44, hf⟩ := pb_gd hf
        refine And.intro hg42 (And.intro hg43 (?_))
        obtain ⟨⟨r45, h46⟩, cr45, hf⟩ := Option.bind_eq_some_iff.mp hf
        try dsimp only at hf
        refine And.intro hg44 (And.intro (Nat.le_of_ble_eq_true rfl) (And.intro (Nat.le_of_ble_eq_true rfl) (Exists.intro (some (.int r45)) (Exists.intro _ (And.intro (l_195 cr45) (?_))))))
        refine And.intro (fun (hc47 : r40 = r45) => ?_) (fun (hc47 : ¬ (r40 = r45)) => ?_)
        · rw [if_pos hc47] at hf
          refine hG.1 98 2006 kb_307_2006 _ _ _ rfl ?_
          cases hf
          exact hk
        · rw [if_neg hc47] at hf
          cases hf
          cases hk
          exact And.intro (fun _ => Or.inl rfl) (And.intro rfl rfl)
      rw [if_neg hc36] at hf
      by_cases hc48 : ((xs.getD s.1.toNatClampNeg 0) &&& 63) = 3
      · rw [if_pos hc48] at hf
        refine pb_gs (G := G) (tgt := 327) (show pb_swt 33 1973 0 39 #[175, 238, 261, 294, 317, 350, 393, 426, 479, 512, 571, 630, 690, 739, 818, 914, 957, 990, 1043, 1086, 1119, 1152, 1195, 1244, 1277, 1310, 1370, 1413, 1446, 1489, 1522, 1591, 1624, 1683, 1742, 1785, 1855, 1904, 1927, 1950] ((xs.getD s.1.toNatClampNeg 0) &&& 63) = 327 by rw [hc48]; decide) ?_
        refine hG.1 5 327 kb_307_327 _ _ _ rfl ?_
        obtain ⟨hg49, hf⟩ := pb_gd hf
        obtain ⟨hg50, hf⟩ := pb_gd hf
        refine And.intro hg49 (?_)
        obtain ⟨r51, cr51, hf⟩ := Option.bind_eq_some_iff.mp hf
        refine And.intro hg50 (And.intro (Nat.le_of_ble_eq_true rfl) (And.intro (Nat.le_of_ble_eq_true rfl) (Exists.intro (some (.int r51)) (Exists.intro _ (And.intro (l_127 cr51) (?_))))))
        obtain ⟨hg52, hf⟩ := pb_gd hf
        refine And.intro hg49 (?_)
        obtain ⟨⟨r53, h54⟩, cr53, hf⟩ := Option.bind_eq_some_iff.mp hf
        try dsimp only at hf
        refine And.intro hg52 (And.intro (Nat.le_of_ble_eq_true rfl) (And.intro (Nat.le_of_ble_eq_true rfl) (Exists.intro (some (.int r53)) (Exists.intro _ (And.intro (l_196 cr53) (?_))))))
        refine And.intro (fun (hc55 : r51 = r53) => ?_) (fun (hc55 : ¬ (r51 = r53)) => ?_)
        · rw [if_pos hc55] at hf
          refine hG.1 98 2006 kb_307_2006 _ _ _ rfl ?_
          cases hf
          exact hk
        · rw [if_neg hc55] at hf
          cases hf
          cases hk
          exact And.intro (fun _ => Or.inl rfl) (And.intro rfl rfl)
      rw [if_neg hc48] at hf
      by_cases hc56 : ((xs.getD s.1.toNatClampNeg 0) &&& 63) = 4
      · rw [if_pos hc56] at hf
        refine pb_gs (G := G) (tgt := 350) (show pb_swt 33 1973 0 39 #[175, 238, 261, 294, 317, 350, 393, 426, 479, 512, 571, 630, 690, 739, 818, 914, 957, 990, 1043, 1086, 1119, 1152, 1195, 1244, 1277, 1310, 1370, 1413, 1446, 1489, 1522, 1591, 1624, 1683, 1742, 1785, 1855, 1904, 1927, 1950] ((xs.getD s.1.toNatClampNeg 0) &&& 63) = 350 by rw [hc56]; decide) ?_
        refine hG.1 6 350 kb_307_350 _ _ _ rfl ?_
        obtain ⟨hg57, hf⟩ := pb_gd hf
        obtain ⟨hg58, hf⟩ := pb_gd hf
        obtain ⟨hg59, hf⟩ := pb_gd hf
        refine And.intro hg57 (And.intro hg58 (?_))
        obtain ⟨r60, cr60, hf⟩ := Option.bind_eq_some_iff.mp hf
        refine And.intro hg59 (And.intro (Nat.le_of_ble_eq_true rfl) (And.intro (Nat.le_of_ble_eq_true rfl) (Exists.intro (some (.int r60)) (Exists.intro _ (And.intro (l_128 cr60) (?_))))))
        obtain ⟨hg61, hf⟩ := pb_gd hf
        refine And.intro hg57 (And.intro hg58 (?_))
        obtain ⟨⟨r62, h63⟩, cr62, hf⟩ := Option.bind_eq_some_iff.mp hf
        try dsimp only at hf
        refine And.intro hg61 (And.intro (Nat.le_of_ble_eq_true rfl) (And.intro (Nat.le_of_ble_eq_true rfl) (Exists.intro (some (.int r62)) (Exists.intro _ (And.intro (l_211 cr62) (?_))))))
        refine And.intro (fun (hc64 : r60 = r62) => ?_) (fun (hc64 : ¬ (r60 = r62)) => ?_)
        · rw [if_pos hc64] at hf
          refine hG.1 98 2006 kb_307_2006 _ _ _ rfl ?_
          cases hf
          exact hk
        · rw [if_neg hc64] at hf
          cases hf
          cases hk
          exact And.intro (fun _ => Or.inl rfl) (And.intro rfl rfl)
      rw [if_neg hc56] at hf
      by_cases hc65 : ((xs.getD s.1.toNatClampNeg 0) &&& 63) = 5
      · rw [if_pos hc65] at hf
        refine pb_gs (G := G) (tgt := 383) (show pb_swt 33 1973 0 39 #[175, 238, 261, 294, 317, 350, 393, 426, 479, 512, 571, 630, 690, 739, 818, 914, 957, 990, 1043, 1086, 1119, 1152, 1195, 1244, 1277, 1310, 1370, 1413, 1446, 1489, 1522, 1591, 1624, 1683, 1742, 1785, 1855, 1904, 1927, 1950] ((xs.getD s.1.toNatClampNeg 0) &&& 63) = 383 by rw [hc65]; decide) ?_
        refine hG.1 7 383 kb_307_383 _ _ _ rfl ?_
        obtain ⟨hg66, hf⟩ := pb_gd hf
        obtain ⟨hg67, hf⟩ := pb_gd hf
        obtain ⟨hg68, hf⟩ := pb_gd hf
        obtain ⟨hg69, hf⟩ := pb_gd hf
        refine And.intro hg66 (And.intro hg67 (And.intro hg68 (?_)))
        obtain ⟨r70, cr70, hf⟩ := Option.bind_eq_some_iff.mp hf
        refine And.intro hg69 (And.intro (Nat.le_of_ble_eq_true rfl) (And.intro (Nat.le_of_ble_eq_true rfl) (Exists.intro (some (.int r70)) (Exists.intro _ (And.intro (l_129 cr70) (?_))))))
        obtain ⟨hg71, hf⟩ := pb_gd hf
        refine And.intro hg66 (And.intro hg67 (And.intro hg68 (?_)))
        obtain ⟨⟨r72, h73⟩, cr72, hf⟩ := Option.bind_eq_some_iff.mp hf
        try dsimp only at hf
        refine And.intro hg71 (And.intro (Nat.le_of_ble_eq_true rfl) (And.intro (Nat.le_of_ble_eq_true rfl) (Exists.intro (some (.int r72)) (Exists.intro _ (And.intro (l_215 cr72) (?_))))))
        refine And.intro (fun (hc74 : r70 = r72) => ?_) (fun (hc74 : ¬ (r70 = r72)) => ?_)
        · rw [if_pos hc74] at hf
          refine hG.1 98 2006 kb_307_2006 _ _ _ rfl ?_
          cases hf
          exact hk
        · rw [if_neg hc74] at hf
          cases hf
          cases hk
          exact And.intro (fun _ => Or.inl rfl) (And.intro rfl rfl)
      rw [if_neg hc65] at hf
      by_cases hc75 : ((xs.getD s.1.toNatClampNeg 0) &&& 63) = 6
      · rw [if_pos hc75] at hf
        refine pb_gs (G := G) (tgt := 426) (show pb_swt 33 1973 0 39 #[175, 238, 261, 294, 317, 350, 393, 426, 479, 512, 571, 630, 690, 739, 818, 914, 957, 990, 1043, 1086, 1119, 1152, 1195, 1244, 1277, 1310, 1370, 1413, 1446, 1489, 1522, 1591, 1624, 1683, 1742, 1785, 1855, 1904, 1927, 1950] ((xs.getD s.1.toNatClampNeg 0) &&& 63) = 426 by rw [hc75]; decide) ?_
        refine hG.1 8 426 kb_307_426 _ _ _ rfl ?_
        obtain ⟨hg76, hf⟩ := pb_gd hf
        obtain ⟨hg77, hf⟩ := pb_gd hf
        obtain ⟨hg78, hf⟩ := pb_gd hf
        refine And.intro hg76 (And.intro hg77 (?_))
        obtain ⟨⟨r79, h80⟩, cr79, hf⟩ := Option.bind_eq_some_iff.mp hf
        try dsimp only at hf
        refine And.intro hg78 (And.intro (Nat.le_of_ble_eq_true rfl) (And.intro (Nat.le_of_ble_eq_true rfl) (Exists.intro (some (.int r79)) (Exists.intro _ (And.intro (l_130 cr79) (?_))))))
        obtain ⟨hg81, hf⟩ := pb_gd hf
        obtain ⟨hg82, hf⟩ := pb_gd hf
        obtain ⟨hg83, hf⟩ := pb_gd hf
        refine And.intro hg81 (And.intro hg82 (?_))
        obtain ⟨⟨r84, h85⟩, cr84, hf⟩ := Option.bind_eq_some_iff.mp hf
        try dsimp only at hf
        refine And.intro hg83 (And.intro (Nat.le_of_ble_eq_true rfl) (And.intro (Nat.le_of_ble_eq_true rfl) (Exists.intro (some (.int r84)) (Exists.intro _ (And.intro (l_224 cr84) (?_))))))
        refine And.intro (fun (hc86 : r79 = r84) => ?_) (fun (hc86 : ¬ (r79 = r84)) => ?_)
        · rw [if_pos hc86] at hf
          refine hG.1 98 2006 kb_307_2006 _ _ _ rfl ?_
          cases hf
          exact hk
        · rw [if_neg hc86] at hf
          cases hf
          cases hk
          exact And.intro (fun _ => Or.inl rfl) (And.intro rfl rfl)
      rw [if_neg hc75] at hf
      by_cases hc87 : ((xs.getD s.1.toNatClampNeg 0) &&& 63) = 7
      · rw [if_pos hc87] at hf
        refine pb_gs (G := G) (tgt := 459) (show pb_swt 33 1973 0 39 #[175, 238, 261, 294, 317, 350, 393, 426, 479, 512, 571, 630, 690, 739, 818, 914, 957, 990, 1043, 1086, 1119, 1152, 1195, 1244, 1277, 1310, 1370, 1413, 1446, 1489, 1522, 1591, 1624, 1683, 1742, 1785, 1855, 1904, 1927, 1950] ((xs.getD s.1.toNatClampNeg 0) &&& 63) = 459 by rw [hc87]; decide) ?_
        refine hG.1 9 459 kb_307_459 _ _ _ rfl ?_
        obtain ⟨hg88, hf⟩ := pb_gd hf
        obtain ⟨hg89, hf⟩ := pb_gd hf
        obtain ⟨hg90, hf⟩ := pb_gd hf
        obtain ⟨hg91, hf⟩ := pb_gd hf
        obtain ⟨hg92, hf⟩ := pb_gd hf
        refine And.intro hg88 (And.intro hg89 (And.intro hg90 (And.intro hg91 (?_))))
        obtain ⟨⟨r93, h94⟩, cr93, hf⟩ := Option.bind_eq_some_iff.mp hf
        try dsimp only at hf
        refine And.intro hg92 (And.intro (Nat.le_of_ble_eq_true rfl) (And.intro (Nat.le_of_ble_eq_true rfl) (Exists.intro (some (.int r93)) (Exists.intro _ (And.intro (l_131 cr93) (?_))))))
        obtain ⟨hg95, hf⟩ := pb_gd hf
        obtain ⟨hg96, hf⟩ := pb_gd hf
        obtain ⟨hg97, hf⟩ := pb_gd hf
        obtain ⟨hg98, hf⟩ := pb_gd hf
        obtain ⟨hg99, hf⟩ := pb_gd hf
        refine And.intro hg95 (And.intro hg96 (And.intro hg97 (And.intro hg98 (?_))))
        obtain ⟨⟨r100, h101⟩, cr100, hf⟩ := Option.bind_eq_some_iff.mp hf
        try dsimp only at hf
        refine And.intro hg99 (And.intro (Nat.le_of_ble_eq_true rfl) (And.intro (Nat.le_of_ble_eq_true rfl) (Exists.intro (some (.int r100)) (Exists.intro _ (And.intro (l_227 cr100) (?_))))))
        refine And.intro (fun (hc102 : r93 = r100) => ?_) (fun (hc102 : ¬ (r93 = r100)) => ?_)
        · rw [if_pos hc102] at hf
          refine hG.1 98 2006 kb_307_2006 _ _ _ rfl ?_
          cases hf
          exact hk
        · rw [if_neg hc102] at hf
          cases hf
          cases hk
          exact And.intro (fun _ => Or.inl rfl) (And.intro rfl rfl)
      rw [if_neg hc87] at hf
      by_cases hc103 : ((xs.getD s.1.toNatClampNeg 0) &&& 63) = 8
      · rw [if_pos hc103] at hf
        refine pb_gs (G := G) (tgt := 512) (show pb_swt 33 1973 0 39 #[175, 238, 261, 294, 317, 350, 393, 426, 479, 512, 571, 630, 690, 739, 818, 914, 957, 990, 1043, 1086, 1119, 1152, 1195, 1244, 1277, 1310, 1370, 1413, 1446, 1489, 1522, 1591, 1624, 1683, 1742, 1785, 1855, 1904, 1927, 1950] ((xs.getD s.1.toNatClampNeg 0) &&& 63) = 512 by rw [hc103]; decide) ?_
        refine hG.1 10 512 kb_307_512 _ _ _ rfl ?_
        obtain ⟨hg104, hf⟩ := pb_gd hf
        obtain ⟨hg105, hf⟩ := pb_gd hf
        obtain ⟨hg106, hf⟩ := pb_gd hf
        refine And.intro hg104 (And.intro hg105 (?_))
        obtain ⟨⟨r107, h108⟩, cr107, hf⟩ := Option.bind_eq_some_iff.mp hf
        try dsimp only at hf
        refine And.intro hg106 (And.intro (Nat.le_of_ble_eq_true rfl) (And.intro (Nat.le_of_ble_eq_true rfl) (Exists.intro (some (.int r107)) (Exists.intro _ (And.intro (l_132 cr107) (?_))))))
        obtain ⟨hg109, hf⟩ := pb_gd hf
        obtain ⟨hg110, hf⟩ := pb_gd hf
        obtain ⟨hg111, hf⟩ := pb_gd hf
        refine And.intro hg109 (And.intro hg110 (?_))
        obtain ⟨⟨r112, h113⟩, cr112, hf⟩ := Option.bind_eq_some_iff.mp hf
        try dsimp only at hf
        refine And.intro hg111 (And.intro (Nat.le_of_ble_eq_true rfl) (And.intro (Nat.le_of_ble_eq_true rfl) (Exists.intro (some (.int r112)) (Exists.intro _ (And.intro (l_228 cr112) (?_))))))
        refine And.intro (fun (hc114 : r107 = r112) => ?_) (fun (hc114 : ¬ (r107 = r112)) => ?_)
        · rw [if_pos hc114] at hf
          refine hG.1 98 2006 kb_307_2006 _ _ _ rfl ?_
          cases hf
          exact hk
        · rw [if_neg hc114] at hf
          cases hf
          cases hk
          exact And.intro (fun _ => Or.inl rfl) (And.intro rfl rfl)
      rw [if_neg hc103] at hf
      by_cases hc115 : ((xs.getD s.1.toNatClampNeg 0) &&& 63) = 9
      · rw [if_pos hc115] at hf
        refine pb_gs (G := G) (tgt := 545) (show pb_swt 33 1973 0 39 #[175, 238, 261, 294, 317, 350, 393, 426, 479, 512, 571, 630, 690, 739, 818, 914, 957, 990, 1043, 1086, 1119, 1152, 1195, 1244, 1277, 1310, 1370, 1413, 1446, 1489, 1522, 1591, 1624, 1683, 1742, 1785, 1855, 1904, 1927, 1950] ((xs.getD s.1.toNatClampNeg 0) &&& 63) = 545 by rw [hc115]; decide) ?_
        refine hG.1 11 545 kb_307_545 _ _ _ rfl ?_
        obtain ⟨hg116, hf⟩ := pb_gd hf
        obtain ⟨hg117, hf⟩ := pb_gd hf
        obtain ⟨hg118, hf⟩ := pb_gd hf
        refine And.intro hg116 (And.intro hg117 (And.intro hg118 (?_)))
        refine And.intro (fun (hc130 : (xs.getD (s.1 + 3).toNatClampNeg 0) = 0) => ?_) (fun (hc130 : ¬ ((xs.getD (s.1 + 3).toNatClampNeg 0) = 0)) => ?_)
        · rw [if_pos hc130] at hf
          refine hG.1 12 568 kb_307_568 _ _ _ rfl ?_
          exact hj_569 _ _ _ _ _ _ _ _ _ hf hk
        · rw [if_neg hc130] at hf
          exact hj_569 _ _ _ _ _ _ _ _ _ hf hk
      rw [if_neg hc115] at hf
      by_cases hc131 : ((xs.getD s.1.toNatClampNeg 0) &&& 63) = 10
      · rw [if_pos hc131] at hf
        refine pb_gs (G := G) (tgt := 604) (show pb_swt 33 1973 0 39 #[175, 238, 261, 294, 317, 350, 393, 426, 479, 512, 571, 630, 690, 739, 818, 914, 957, 990, 1043, 1086, 1119, 1152, 1195, 1244, 1277, 1310, 1370, 1413, 1446, 1489, 1522, 1591, 1624, 1683, 1742, 1785, 1855, 1904, 1927, 1950] ((xs.getD s.1.toNatClampNeg 0) &&& 63) = 604 by rw [hc131]; decide) ?_
        refine hG.1 16 604 kb_307_604 _ _ _ rfl ?_
        obtain ⟨hg132, hf⟩ := pb_gd hf
        obtain ⟨hg133, hf⟩ := pb_gd hf
        obtain ⟨hg134, hf⟩ := pb_gd hf
        refine And.intro hg132 (And.intro hg133 (And.intro hg134 (?_)))
        refine And.intro (fun (hc146 : (xs.getD (s.1 + 3).toNatClampNeg 0) = 0) => ?_) (fun (hc146 : ¬ ((xs.getD (s.1 + 3).toNatClampNeg 0) = 0)) => ?_)
        · rw [if_pos hc146] at hf
          refine hG.1 17 627 kb_307_627 _ _ _ rfl ?_
          exact hj_628 _ _ _ _ _ _ _ _ _ hf hk
        · rw [if_neg hc146] at hf
          exact hj_628 _ _ _ _ _ _ _ _ _ hf hk
      rw [if_neg hc131] at hf
      by_cases hc147 : ((xs.getD s.1.toNatClampNeg 0) &&& 63) = 11
      · rw [if_pos hc147] at hf
        refine pb_gs (G := G) (tgt := 663) (show pb_swt 33 1973 0 39 #[175, 238, 261, 294, 317, 350, 393, 426, 479, 512, 571, 630, 690, 739, 818, 914, 957, 990, 1043, 1086, 1119, 1152, 1195, 1244, 1277, 1310, 1370, 1413, 1446, 1489, 1522, 1591, 1624, 1683, 1742, 1785, 1855, 1904, 1927, 1950] ((xs.getD s.1.toNatClampNeg 0) &&& 63) = 663 by rw [hc147]; decide) ?_
        refine hG.1 21 663 kb_307_663 _ _ _ rfl ?_
        obtain ⟨hg148, hf⟩ := pb_gd hf
        obtain ⟨hg149, hf⟩ := pb_gd hf
        obtain ⟨hg150, hf⟩ := pb_gd hf
        refine And.intro hg148 (And.intro hg149 (And.intro hg150 (?_)))
        refine And.intro (fun (hc162 : (xs.getD (s.1 + 3).toNatClampNeg 0) = 0) => ?_) (fun (hc162 : ¬ ((xs.getD (s.1 + 3).toNatClampNeg 0) = 0)) => ?_)
        · rw [if_pos hc162] at hf
          refine hG.1 22 686 kb_307_686 _ _ _ rfl ?_
          exact hj_687 _ _ _ _ _ _ _ _ _ hf hk
        · rw [if_neg hc162] at hf
          exact hj_687 _ _ _ _ _ _ _ _ _ hf hk
      rw [if_neg hc147] at hf
      by_cases hc163 : ((xs.getD s.1.toNatClampNeg 0) &&& 63) = 12
      · rw [if_pos hc163] at hf
        refine pb_gs (G := G) (tgt := 723) (show pb_swt 33 1973 0 39 #[175, 238, 261, 294, 317, 350, 393, 426, 479, 512, 571, 630, 690, 739, 818, 914, 957, 990, 1043, 1086, 1119, 1152, 1195, 1244, 1277, 1310, 1370, 1413, 1446, 1489, 1522, 1591, 1624, 1683, 1742, 1785, 1855, 1904, 1927, 1950] ((xs.getD s.1.toNatClampNeg 0) &&& 63) = 723 by rw [hc163]; decide) ?_
        refine hG.1 26 723 kb_307_723 _ _ _ rfl ?_
        obtain ⟨hg164, hf⟩ := pb_gd hf
        obtain ⟨hg165, hf⟩ := pb_gd hf
        refine And.intro hg164 (And.intro hg165 (?_))
        refine And.intro (fun (hc176 : (xs.getD (s.1 + 2).toNatClampNeg 0) = 0) => ?_) (fun (hc176 : ¬ ((xs.getD (s.1 + 2).toNatClampNeg 0) = 0)) => ?_)
        · rw [if_pos hc176] at hf
          refine hG.1 27 741 kb_307_741 _ _ _ rfl ?_
          exact hj_742 _ _ _ _ _ _ _ _ hf hk
        · rw [if_neg hc176] at hf
          exact hj_742 _ _ _ _ _ _ _ _ hf hk
      rw [if_neg hc163] at hf
      by_cases hc177 : ((xs.getD s.1.toNatClampNeg 0) &&& 63) = 13
      · rw [if_pos hc177] at hf
        refine pb_gs (G := G) (tgt := 772) (show pb_swt 33 1973 0 39 #[175, 238, 261, 294, 317, 350, 393, 426, 479, 512, 571, 630, 690, 739, 818, 914, 957, 990, 1043, 1086, 1119, 1152, 1195, 1244, 1277, 1310, 1370, 1413, 1446, 1489, 1522, 1591, 1624, 1683, 1742, 1785, 1855, 1904, 1927, 1950] ((xs.getD s.1.toNatClampNeg 0) &&& 63) = 772 by rw [hc177]; decide) ?_
        refine hG.1 31 772 kb_307_772 _ _ _ rfl ?_
        obtain ⟨hg178, hf⟩ := pb_gd hf
        obtain ⟨hg179, hf⟩ := pb_gd hf
        obtain ⟨hg180, hf⟩ := pb_gd hf
        obtain ⟨hg181, hf⟩ := pb_gd hf
        obtain ⟨hg182, hf⟩ := pb_gd hf
        refine And.intro hg178 (And.intro hg179 (And.intro hg180 (And.intro hg181 (And.intro hg182 (?_)))))
        refine And.intro (fun (hc196 : (xs.getD (s.1 + 5).toNatClampNeg 0) = 0) => ?_) (fun (hc196 : ¬ ((xs.getD (s.1 + 5).toNatClampNeg 0) = 0)) => ?_)
        · rw [if_pos hc196] at hf
          refine hG.1 32 805 kb_307_805 _ _ _ rfl ?_
          exact hj_806 _ _ _ _ _ _ _ _ _ _ _ hf hk
        · rw [if_neg hc196] at hf
          exact hj_806 _ _ _ _ _ _ _ _ _ _ _ hf hk
      rw [if_neg hc177] at hf
      by_cases hc197 : ((xs.getD s.1.toNatClampNeg 0) &&& 63) = 14
      · rw [if_pos hc197] at hf
        refine pb_gs (G := G) (tgt := 851) (show pb_swt 33 1973 0 39 #[175, 238, 261, 294, 317, 350, 393, 426, 479, 512, 571, 630, 690, 739, 818, 914, 957, 990, 1043, 1086, 1119, 1152, 1195, 1244, 1277, 1310, 1370, 1413, 1446, 1489, 1522, 1591, 1624, 1683, 1742, 1785, 1855, 1904, 1927, 1950] ((xs.getD s.1.toNatClampNeg 0) &&& 63) = 851 by rw [hc197]; decide) ?_
        refine hG.1 36 851 kb_307_851 _ _ _ rfl ?_
        obtain ⟨hg198, hf⟩ := pb_gd hf
        obtain ⟨hg199, hf⟩ := pb_gd hf
        obtain ⟨hg200, hf⟩ := pb_gd hf
        obtain ⟨hg201, hf⟩ := pb_gd hf
        refine And.intro hg198 (And.intro hg199 (And.intro hg200 (And.intro hg201 (?_))))
        refine And.intro (fun (hc217 : (xs.getD (s.1 + 4).toNatClampNeg 0) = 0) => ?_) (fun (hc217 : ¬ ((xs.getD (s.1 + 4).toNatClampNeg 0) = 0)) => ?_)
        · rw [if_pos hc217] at hf
          refine hG.1 37 879 kb_307_879 _ _ _ rfl ?_
          exact hj_880 _ _ _ _ _ _ _ _ _ _ hf hk
        · rw [if_neg hc217] at hf
          exact hj_880 _ _ _ _ _ _ _ _ _ _ hf hk
      rw [if_neg hc197] at hf
      by_cases hc218 : ((xs.getD s.1.toNatClampNeg 0) &&& 63) = 15
      · rw [if_pos hc218] at hf
        refine pb_gs (G := G) (tgt := 947) (show pb_swt 33 1973 0 39 #[175, 238, 261, 294, 317, 350, 393, 426, 479, 512, 571, 630, 690, 739, 818, 914, 957, 990, 1043, 1086, 1119, 1152, 1195, 1244, 1277, 1310, 1370, 1413, 1446, 1489, 1522, 1591, 1624, 1683, 1742, 1785, 1855, 1904, 1927, 1950] ((xs.getD s.1.toNatClampNeg 0) &&& 63) = 947 by rw [hc218]; decide) ?_
        refine hG.1 45 947 kb_307_947 _ _ _ rfl ?_
        obtain ⟨hg219, hf⟩ := pb_gd hf
        obtain ⟨hg220, hf⟩ := pb_gd hf
        obtain ⟨hg221, hf⟩ := pb_gd hf
        obtain ⟨hg222, hf⟩ := pb_gd hf
        refine And.intro hg219 (And.intro hg220 (And.intro hg221 (?_)))
        obtain ⟨r223, cr223, hf⟩ := Option.bind_eq_some_iff.mp hf
        refine And.intro hg222 (And.intro (Nat.le_of_ble_eq_true rfl) (And.intro (Nat.le_of_ble_eq_true rfl) (Exists.intro (some (.int r223)) (Exists.intro _ (And.intro (l_139 cr223) (?_))))))
        obtain ⟨hg224, hf⟩ := pb_gd hf
        refine And.intro hg219 (And.intro hg220 (And.intro hg221 (?_)))
        obtain ⟨⟨r225, h226⟩, cr225, hf⟩ := Option.bind_eq_some_iff.mp hf
        try dsimp only at hf
        refine And.intro hg224 (And.intro (Nat.le_of_ble_eq_true rfl) (And.intro (Nat.le_of_ble_eq_true rfl) (Exists.intro (some (.int r225)) (Exists.intro _ (And.intro (l_246 cr225) (?_))))))
        refine And.intro (fun (hc227 : r223 = r225) => ?_) (fun (hc227 : ¬ (r223 = r225)) => ?_)
        · rw [if_pos hc227] at hf
          refine hG.1 98 2006 kb_307_2006 _ _ _ rfl ?_
          cases hf
          exact hk
        · rw [if_neg hc227] at hf
          cases hf
          cases hk
          exact And.intro (fun _ => Or.inl rfl) (And.intro rfl rfl)
      rw [if_neg hc218] at hf
      by_cases hc228 : ((xs.getD s.1.toNatClampNeg 0) &&& 63) = 16
      · rw [if_pos hc228] at hf
        refine pb_gs (G := G) (tgt := 990) (show pb_swt 33 1973 0 39 #[175, 238, 261, 294, 317, 350, 393, 426, 479, 512, 571, 630, 690, 739, 818, 914, 957, 990, 1043, 1086, 1119, 1152, 1195, 1244, 1277, 1310, 1370, 1413, 1446, 1489, 1522, 1591, 1624, 1683, 1742, 1785, 1855, 1904, 1927, 1950] ((xs.getD s.1.toNatClampNeg 0) &&& 63) = 990 by rw [hc228]; decide) ?_
        refine hG.1 46 990 kb_307_990 _ _ _ rfl ?_
        obtain ⟨hg229, hf⟩ := pb_gd hf
        obtain ⟨hg230, hf⟩ := pb_gd hf
        obtain ⟨hg231, hf⟩ := pb_gd hf
        refine And.intro hg229 (And.intro hg230 (?_))
        obtain ⟨⟨r232, h233⟩, cr232, hf⟩ := Option.bind_eq_some_iff.mp hf
        try dsimp only at hf
        refine And.intro hg231 (And.intro (Nat.le_of_ble_eq_true rfl) (And.intro (Nat.le_of_ble_eq_true rfl) (Exists.intro (some (.int r232)) (Exists.intro _ (And.intro (l_140 cr232) (?_))))))
        obtain ⟨hg234, hf⟩ := pb_gd hf
        obtain ⟨hg235, hf⟩ := pb_gd hf
        obtain ⟨hg236, hf⟩ := pb_gd hf
        refine And.intro hg234 (And.intro hg235 (?_))
        obtain ⟨⟨r237, h238⟩, cr237, hf⟩ := Option.bind_eq_some_iff.mp hf
        try dsimp only at hf
        refine And.intro hg236 (And.intro (Nat.le_of_ble_eq_true rfl) (And.intro (Nat.le_of_ble_eq_true rfl) (Exists.intro (some (.int r237)) (Exists.intro _ (And.intro (l_255 cr237) (?_))))))
        refine And.intro (fun (hc239 : r232 = r237) => ?_) (fun (hc239 : ¬ (r232 = r237)) => ?_)
        · rw [if_pos hc239] at hf
          refine hG.1 98 2006 kb_307_2006 _ _ _ rfl ?_
          cases hf
          exact hk
        · rw [if_neg hc239] at hf
          cases hf
          cases hk
          exact And.intro (fun _ => Or.inl rfl) (And.intro rfl rfl)
      rw [if_neg hc228] at hf
      by_cases hc240 : ((xs.getD s.1.toNatClampNeg 0) &&& 63) = 17
      · rw [if_pos hc240] at hf
        refine pb_gs (G := G) (tgt := 1023) (show pb_swt 33 1973 0 39 #[175, 238, 261, 294, 317, 350, 393, 426, 479, 512, 571, 630, 690, 739, 818, 914, 957, 990, 1043, 1086, 1119, 1152, 1195, 1244, 1277, 1310, 1370, 1413, 1446, 1489, 1522, 1591, 1624, 1683, 1742, 1785, 1855, 1904, 1927, 1950] ((xs.getD s.1.toNatClampNeg 0) &&& 63) = 1023 by rw [hc240]; decide) ?_
        refine hG.1 47 1023 kb_307_1023 _ _ _ rfl ?_
        obtain ⟨hg241, hf⟩ := pb_gd hf
        obtain ⟨hg242, hf⟩ := pb_gd hf
        obtain ⟨hg243, hf⟩ := pb_gd hf
        obtain ⟨hg244, hf⟩ := pb_gd hf
        obtain ⟨hg245, hf⟩ := pb_gd hf
        refine And.intro hg241 (And.intro hg242 (And.intro hg243 (And.intro hg244 (?_))))
        obtain ⟨⟨r246, h247⟩, cr246, hf⟩ := Option.bind_eq_some_iff.mp hf
        try dsimp only at hf
        refine And.intro hg245 (And.intro (Nat.le_of_ble_eq_true rfl) (And.intro (Nat.le_of_ble_eq_true rfl) (Exists.intro (some (.int r246)) (Exists.intro _ (And.intro (l_141 cr246) (?_))))))
        obtain ⟨hg248, hf⟩ := pb_gd hf
        obtain ⟨hg249, hf⟩ := pb_gd hf
        obtain ⟨hg250, hf⟩ := pb_gd hf
        obtain ⟨hg251, hf⟩ := pb_gd hf
        obtain ⟨hg252, hf⟩ := pb_gd hf
        refine And.intro hg248 (And.intro hg249 (And.intro hg250 (And.intro hg251 (?_))))
        obtain ⟨⟨r253, h254⟩, cr253, hf⟩ := Option.bind_eq_some_iff.mp hf
        try dsimp only at hf
        refine And.intro hg252 (And.intro (Nat.le_of_ble_eq_true rfl) (And.intro (Nat.le_of_ble_eq_true rfl) (Exists.intro (some (.int r253)) (Exists.intro _ (And.intro (l_258 cr253) (?_))))))
        refine And.intro (fun (hc255 : r246 = r253) => ?_) (fun (hc255 : ¬ (r246 = r253)) => ?_)
        · rw [if_pos hc255] at hf
          refine hG.1 98 2006 kb_307_2006 _ _ _ rfl ?_
          cases hf
          exact hk
        · rw [if_neg hc255] at hf
          cases hf
          cases hk
          exact And.intro (fun _ => Or.inl rfl) (And.intro rfl rfl)
      rw [if_neg hc240] at hf
      by_cases hc256 : ((xs.getD s.1.toNatClampNeg 0) &&& 63) = 18
      · rw [if_pos hc256] at hf
        refine pb_gs (G := G) (tgt := 1076) (show pb_swt 33 1973 0 39 #[175, 238, 261, 294, 317, 350, 393, 426, 479, 512, 571, 630, 690, 739, 818, 914, 957, 990, 1043, 1086, 1119, 1152, 1195, 1244, 1277, 1310, 1370, 1413, 1446, 1489, 1522, 1591, 1624, 1683, 1742, 1785, 1855, 1904, 1927, 1950] ((xs.getD s.1.toNatClampNeg 0) &&& 63) = 1076 by rw [hc256]; decide) ?_
        refine hG.1 48 1076 kb_307_1076 _ _ _ rfl ?_
        obtain ⟨hg257, hf⟩ := pb_gd hf
        obtain ⟨hg258, hf⟩ := pb_gd hf
        obtain ⟨hg259, hf⟩ := pb_gd hf
        obtain ⟨hg260, hf⟩ := pb_gd hf
        refine And.intro hg257 (And.intro hg258 (And.intro hg259 (?_)))
        obtain ⟨⟨r261, h262⟩, cr261, hf⟩ := Option.bind_eq_some_iff.mp hf
        try dsimp only at hf
        refine And.intro hg260 (And.intro (Nat.le_of_ble_eq_true rfl) (And.intro (Nat.le_of_ble_eq_true rfl) (Exists.intro (some (.int r261)) (Exists.intro _ (And.intro (l_142 cr261) (?_))))))
        obtain ⟨hg263, hf⟩ := pb_gd hf
        obtain ⟨hg264, hf⟩ := pb_gd hf
        obtain ⟨hg265, hf⟩ := pb_gd hf
        obtain ⟨hg266, hf⟩ := pb_gd hf
        refine And.intro hg263 (And.intro hg264 (And.intro hg265 (?_)))
        obtain ⟨⟨r267, h268⟩, cr267, hf⟩ := Option.bind_eq_some_iff.mp hf
        try dsimp only at hf
        refine And.intro hg266 (And.intro (Nat.le_of_ble_eq_true rfl) (And.intro (Nat.le_of_ble_eq_true rfl) (Exists.intro (some (.int r267)) (Exists.intro _ (And.intro (l_261 cr267) (?_))))))
        refine And.intro (fun (hc269 : r261 = r267) => ?_) (fun (hc269 : ¬ (r261 = r267)) => ?_)
        · rw [if_pos hc269] at hf
          refine hG.1 98 2006 kb_307_2006 _ _ _ rfl ?_
          cases hf
          exact hk
        · rw [if_neg hc269] at hf
          cases hf
          cases hk
          exact And.intro (fun _ => Or.inl rfl) (And.intro rfl rfl)
      rw [if_neg hc256] at hf
      by_cases hc270 : ((xs.getD s.1.toNatClampNeg 0) &&& 63) = 19
      · rw [if_pos hc270] at hf
        refine pb_gs (G := G) (tgt := 1119) (show pb_swt 33 1973 0 39 #[175, 238, 261, 294, 317, 350, 393, 426, 479, 512, 571, 630, 690, 739, 818, 914, 957, 990, 1043, 1086, 1119, 1152, 1195, 1244, 1277, 1310, 1370, 1413, 1446, 1489, 1522, 1591, 1624, 1683, 1742, 1785, 1855, 1904, 1927, 1950] ((xs.getD s.1.toNatClampNeg 0) &&& 63) = 1119 by rw [hc270]; decide) ?_
        refine hG.1 49 1119 kb_307_1119 _ _ _ rfl ?_
        obtain ⟨hg271, hf⟩ := pb_gd hf
        obtain ⟨hg272, hf⟩ := pb_gd hf
        obtain ⟨hg273, hf⟩ := pb_gd hf
        refine And.intro hg271 (And.intro hg272 (?_))
        obtain ⟨⟨r274, h275⟩, cr274, hf⟩ := Option.bind_eq_some_iff.mp hf
        try dsimp only at hf
        refine And.intro hg273 (And.intro (Nat.le_of_ble_eq_true rfl) (And.intro (Nat.le_of_ble_eq_true rfl) (Exists.intro (some (.int r274)) (Exists.intro _ (And.intro (l_143 cr274) (?_))))))
        obtain ⟨hg276, hf⟩ := pb_gd hf
        obtain ⟨hg277, hf⟩ := pb_gd hf
        obtain ⟨hg278, hf⟩ := pb_gd hf
        refine And.intro hg276 (And.intro hg277 (?_))
        obtain ⟨⟨r279, h280⟩, cr279, hf⟩ := Option.bind_eq_some_iff.mp hf
        try dsimp only at hf
        refine And.intro hg278 (And.intro (Nat.le_of_ble_eq_true rfl) (And.intro (Nat.le_of_ble_eq_true rfl) (Exists.intro (some (.int r279)) (Exists.intro _ (And.intro (l_270 cr279) (?_))))))
        refine And.intro (fun (hc281 : r274 = r279) => ?_) (fun (hc281 : ¬ (r274 = r279)) => ?_)
        · rw [if_pos hc281] at hf
          refine hG.1 98 2006 kb_307_2006 _ _ _ rfl ?_
          cases hf
          exact hk
        · rw [if_neg hc281] at hf
          cases hf
          cases hk
          exact And.intro (fun _ => Or.inl rfl) (And.intro rfl rfl)
      rw [if_neg hc270] at hf
      by_cases hc282 : ((xs.getD s.1.toNatClampNeg 0) &&& 63) = 20
      · rw [if_pos hc282] at hf
        refine pb_gs (G := G) (tgt := 1152) (show pb_swt 33 1973 0 39 #[175, 238, 261, 294, 317, 350, 393, 426, 479, 512, 571, 630, 690, 739, 818, 914, 957, 990, 1043, 1086, 1119, 1152, 1195, 1244, 1277, 1310, 1370, 1413, 1446, 1489, 1522, 1591, 1624, 1683, 1742, 1785, 1855, 1904, 1927, 1950] ((xs.getD s.1.toNatClampNeg 0) &&& 63) = 1152 by rw [hc282]; decide) ?_
        refine hG.1 50 1152 kb_307_1152 _ _ _ rfl ?_
        obtain ⟨hg283, hf⟩ := pb_gd hf
        obtain ⟨hg284, hf⟩ := pb_gd hf
        obtain ⟨hg285, hf⟩ := pb_gd hf
        refine And.intro hg283 (And.intro hg284 (?_))
        obtain ⟨⟨r286, h287⟩, cr286, hf⟩ := Option.bind_eq_some_iff.mp hf
        try dsimp only at hf
        refine And.intro hg285 (And.intro (Nat.le_of_ble_eq_true rfl) (And.intro (Nat.le_of_ble_eq_true rfl) (Exists.intro (some (.int r286)) (Exists.intro _ (And.intro (l_144 cr286) (?_))))))
        obtain ⟨hg288, hf⟩ := pb_gd hf
        obtain ⟨hg289, hf⟩ := pb_gd hf
        obtain ⟨hg290, hf⟩ := pb_gd hf
        refine And.intro hg288 (And.intro hg289 (?_))
        obtain ⟨⟨r291, h292⟩, cr291, hf⟩ := Option.bind_eq_some_iff.mp hf
        try dsimp only at hf
        refine And.intro hg290 (And.intro (Nat.le_of_ble_eq_true rfl) (And.intro (Nat.le_of_ble_eq_true rfl) (Exists.intro (some (.int r291)) (Exists.intro _ (And.intro (l_271 cr291) (?_))))))
        refine And.intro (fun (hc293 : r286 = r291) => ?_) (fun (hc293 : ¬ (r286 = r291)) => ?_)
        · rw [if_pos hc293] at hf
          refine hG.1 98 2006 kb_307_2006 _ _ _ rfl ?_
          cases hf
          exact hk
        · rw [if_neg hc293] at hf
          cases hf
          cases hk
          exact And.intro (fun _ => Or.inl rfl) (And.intro rfl rfl)
      rw [if_neg hc282] at hf
      by_cases hc294 : ((xs.getD s.1.toNatClampNeg 0) &&& 63) = 21
      · rw [if_pos hc294] at hf
        refine pb_gs (G := G) (tgt := 1185) (show pb_swt 33 1973 0 39 #[175, 238, 261, 294, 317, 350, 393, 426, 479, 512, 571, 630, 690, 739, 818, 914, 957, 990, 1043, 1086, 1119, 1152, 1195, 1244, 1277, 1310, 1370, 1413, 1446, 1489, 1522, 1591, 1624, 1683, 1742, 1785, 1855, 1904, 1927, 1950] ((xs.getD s.1.toNatClampNeg 0) &&& 63) = 1185 by rw [hc294]; decide) ?_
        refine hG.1 51 1185 kb_307_1185 _ _ _ rfl ?_
        obtain ⟨hg295, hf⟩ := pb_gd hf
        obtain ⟨hg296, hf⟩ := pb_gd hf
        obtain ⟨hg297, hf⟩ := pb_gd hf
        obtain ⟨hg298, hf⟩ := pb_gd hf
        refine And.intro hg295 (And.intro hg296 (And.intro hg297 (?_)))
        obtain ⟨⟨r299, h300⟩, cr299, hf⟩ := Option.bind_eq_some_iff.mp hf
        try dsimp only at hf
        refine And.intro hg298 (And.intro (Nat.le_of_ble_eq_true rfl) (And.intro (Nat.le_of_ble_eq_true rfl) (Exists.intro (some (.int r299)) (Exists.intro _ (And.intro (l_145 cr299) (?_))))))
        obtain ⟨hg301, hf⟩ := pb_gd hf
        obtain ⟨hg302, hf⟩ := pb_gd hf
        obtain ⟨hg303, hf⟩ := pb_gd hf
        obtain ⟨hg304, hf⟩ := pb_gd hf
        refine And.intro hg301 (And.intro hg302 (And.intro hg303 (?_)))
        obtain ⟨⟨r305, h306⟩, cr305, hf⟩ := Option.bind_eq_some_iff.mp hf
        try dsimp only at hf
        refine And.intro hg304 (And.intro (Nat.le_of_ble_eq_true rfl) (And.intro (Nat.le_of_ble_eq_true rfl) (Exists.intro (some (.int r305)) (Exists.intro _ (And.intro (l_272 cr305) (?_))))))
        refine And.intro (fun (hc307 : r299 = r305) => ?_) (fun (hc307 : ¬ (r299 = r305)) => ?_)
        · rw [if_pos hc307] at hf
          refine hG.1 98 2006 kb_307_2006 _ _ _ rfl ?_
          cases hf
          exact hk
        · rw [if_neg hc307] at hf
          cases hf
          cases hk
          exact And.intro (fun _ => Or.inl rfl) (And.intro rfl rfl)
      rw [if_neg hc294] at hf
      by_cases hc308 : ((xs.getD s.1.toNatClampNeg 0) &&& 63) = 22
      · rw [if_pos hc308] at hf
        refine pb_gs (G := G) (tgt := 1228) (show pb_swt 33 1973 0 39 #[175, 238, 261, 294, 317, 350, 393, 426, 479, 512, 571, 630, 690, 739, 818, 914, 957, 990, 1043, 1086, 1119, 1152, 1195, 1244, 1277, 1310, 1370, 1413, 1446, 1489, 1522, 1591, 1624, 1683, 1742, 1785, 1855, 1904, 1927, 1950] ((xs.getD s.1.toNatClampNeg 0) &&& 63) = 1228 by rw [hc308]; decide) ?_
        refine hG.1 52 1228 kb_307_1228 _ _ _ rfl ?_
        obtain ⟨hg309, hf⟩ := pb_gd hf
        obtain ⟨hg310, hf⟩ := pb_gd hf
        refine And.intro hg309 (And.intro hg310 (?_))
        refine And.intro (fun (hc320 : (xs.getD (s.1 + 2).toNatClampNeg 0) = 0) => ?_) (fun (hc320 : ¬ ((xs.getD (s.1 + 2).toNatClampNeg 0) = 0)) => ?_)
        · rw [if_pos hc320] at hf
          refine hG.1 53 1246 kb_307_1246 _ _ _ rfl ?_
          exact hj_1247 _ _ _ _ _ _ _ _ hf hk
        · rw [if_neg hc320] at hf
          exact hj_1247 _ _ _ _ _ _ _ _ hf hk
      rw [if_neg hc308] at hf
      by_cases hc321 : ((xs.getD s.1.toNatClampNeg 0) &&& 63) = 23
      · rw [if_pos hc321] at hf
        refine pb_gs (G := G) (tgt := 1277) (show pb_swt 33 1973 0 39 #[175, 238, 261, 294, 317, 350, 393, 426, 479, 512, 571, 630, 690, 739, 818, 914, 957, 990, 1043, 1086, 1119, 1152, 1195, 1244, 1277, 1310, 1370, 1413, 1446, 1489, 1522, 1591, 1624, 1683, 1742, 1785, 1855, 1904, 1927, 1950] ((xs.getD s.1.toNatClampNeg 0) &&& 63) = 1277 by rw [hc321]; decide) ?_
        refine hG.1 57 1277 kb_307_1277 _ _ _ rfl ?_
        obtain ⟨hg322, hf⟩ := pb_gd hf
        obtain ⟨hg323, hf⟩ := pb_gd hf
        obtain ⟨hg324, hf⟩ := pb_gd hf
        refine And.intro hg322 (And.intro hg323 (?_))
        obtain ⟨r325, cr325, hf⟩ := Option.bind_eq_some_iff.mp hf
        refine And.intro hg324 (And.intro (Nat.le_of_ble_eq_true rfl) (And.intro (Nat.le_of_ble_eq_true rfl) (Exists.intro (some (.int r325)) (Exists.intro _ (And.intro (l_147 cr325) (?_))))))
        obtain ⟨hg326, hf⟩ := pb_gd hf
        refine And.intro hg322 (And.intro hg323 (?_))
        obtain ⟨⟨r327, h328⟩, cr327, hf⟩ := Option.bind_eq_some_iff.mp hf
        try dsimp only at hf
        refine And.intro hg326 (And.intro (Nat.le_of_ble_eq_true rfl) (And.intro (Nat.le_of_ble_eq_true rfl) (Exists.intro (some (.int r327)) (Exists.intro _ (And.intro (l_275 cr327) (?_))))))
        refine And.intro (fun (hc329 : r325 = r327) => ?_) (fun (hc329 : ¬ (r325 = r327)) => ?_)
        · rw [if_pos hc329] at hf
          refine hG.1 98 2006 kb_307_2006 _ _ _ rfl ?_
          cases hf
          exact hk
        · rw [if_neg hc329] at hf
          cases hf
          cases hk
          exact And.intro (fun _ => Or.inl rfl) (And.intro rfl rfl)
      rw [if_neg hc321] at hf
      by_cases hc330 : ((xs.getD s.1.toNatClampNeg 0) &&& 63) = 24
      · rw [if_pos hc330] at hf
        refine pb_gs (G := G) (tgt := 1310) (show pb_swt 33 1973 0 39 #[175, 238, 261, 294, 317, 350, 393, 426, 479, 512, 571, 630, 690, 739, 818, 914, 957, 990, 1043, 1086, 1119, 1152, 1195, 1244, 1277, 1310, 1370, 1413, 1446, 1489, 1522, 1591, 1624, 1683, 1742, 1785, 1855, 1904, 1927, 1950] ((xs.getD s.1.toNatClampNeg 0) &&& 63) = 1310 by rw [hc330]; decide) ?_
        refine hG.1 58 1310 kb_307_1310 _ _ _ rfl ?_
        obtain ⟨hg331, hf⟩ := pb_gd hf
        obtain ⟨hg332, hf⟩ := pb_gd hf
        obtain ⟨hg333, hf⟩ := pb_gd hf
        refine And.intro hg331 (And.intro hg332 (?_))
        obtain ⟨r334, cr334, hf⟩ := Option.bind_eq_some_iff.mp hf
        refine And.intro hg333 (And.intro (Nat.le_of_ble_eq_true rfl) (And.intro (Nat.le_of_ble_eq_true rfl) (Exists.intro (some (.int r334)) (Exists.intro _ (And.intro (l_148 cr334) (?_))))))
        obtain ⟨hg335, hf⟩ := pb_gd hf
        refine And.intro hg331 (And.intro hg332 (?_))
        obtain ⟨⟨r336, h337⟩, cr336, hf⟩ := Option.bind_eq_some_iff.mp hf
        try dsimp only at hf
        refine And.intro hg335 (And.intro (Nat.le_of_ble_eq_true rfl) (And.intro (Nat.le_of_ble_eq_true rfl) (Exists.intro (some (.int r336)) (Exists.intro _ (And.intro (l_276 cr336) (?_))))))
        refine And.intro (fun (hc338 : r334 = r336) => ?_) (fun (hc338 : ¬ (r334 = r336)) => ?_)
        · rw [if_pos hc338] at hf
          refine hG.1 98 2006 kb_307_2006 _ _ _ rfl ?_
          cases hf
          exact hk
        · rw [if_neg hc338] at hf
          cases hf
          cases hk
          exact And.intro (fun _ => Or.inl rfl) (And.intro rfl rfl)
      rw [if_neg hc330] at hf
      by_cases hc339 : ((xs.getD s.1.toNatClampNeg 0) &&& 63) = 25
      · rw [if_pos hc339] at hf
        refine pb_gs (G := G) (tgt := 1343) (show pb_swt 33 1973 0 39 #[175, 238, 261, 294, 317, 350, 393, 426, 479, 512, 571, 630, 690, 739, 818, 914, 957, 990, 1043, 1086, 1119, 1152, 1195, 1244, 1277, 1310, 1370, 1413, 1446, 1489, 1522, 1591, 1624, 1683, 1742, 1785, 1855, 1904, 1927, 1950] ((xs.getD s.1.toNatClampNeg 0) &&& 63) = 1343 by rw [hc339]; decide) ?_
        refine hG.1 59 1343 kb_307_1343 _ _ _ rfl ?_
        obtain ⟨hg340, hf⟩ := pb_gd hf
        obtain ⟨hg341, hf⟩ := pb_gd hf
        obtain ⟨hg342, hf⟩ := pb_gd hf
        refine And.intro hg340 (And.intro hg341 (And.intro hg342 (?_)))
        refine And.intro (fun (hc353 : (xs.getD (s.1 + 3).toNatClampNeg 0) = 0) => ?_) (fun (hc353 : ¬ ((xs.getD (s.1 + 3).toNatClampNeg 0) = 0)) => ?_)
        · rw [if_pos hc353] at hf
          refine hG.1 60 1366 kb_307_1366 _ _ _ rfl ?_
          exact hj_1367 _ _ _ _ _ _ _ _ _ hf hk
        · rw [if_neg hc353] at hf
          exact hj_1367 _ _ _ _ _ _ _ _ _ hf hk
      rw [if_neg hc339] at hf
      by_cases hc354 : ((xs.getD s.1.toNatClampNeg 0) &&& 63) = 26
      · rw [if_pos hc354] at hf
        refine pb_gs (G := G) (tgt := 1403) (show pb_swt 33 1973 0 39 #[175, 238, 261, 294, 317, 350, 393, 426, 479, 512, 571, 630, 690, 739, 818, 914, 957, 990, 1043, 1086, 1119, 1152, 1195, 1244, 1277, 1310, 1370, 1413, 1446, 1489, 1522, 1591, 1624, 1683, 1742, 1785, 1855, 1904, 1927, 1950] ((xs.getD s.1.toNatClampNeg 0) &&& 63) = 1403 by rw [hc354]; decide) ?_
        refine hG.1 64 1403 kb_307_1403 _ _ _ rfl ?_
        obtain ⟨hg355, hf⟩ := pb_gd hf
        obtain ⟨hg356, hf⟩ := pb_gd hf
        obtain ⟨hg357, hf⟩ := pb_gd hf
        obtain ⟨hg358, hf⟩ := pb_gd hf
        refine And.intro hg355 (And.intro hg356 (And.intro hg357 (?_)))
        obtain ⟨r359, cr359, hf⟩ := Option.bind_eq_some_iff.mp hf
        refine And.intro hg358 (And.intro (Nat.le_of_ble_eq_true rfl) (And.intro (Nat.le_of_ble_eq_true rfl) (Exists.intro (some (.int r359)) (Exists.intro _ (And.intro (l_150 cr359) (?_))))))
        obtain ⟨hg360, hf⟩ := pb_gd hf
        refine And.intro hg355 (And.intro hg356 (And.intro hg357 (?_)))
        obtain ⟨⟨r361, h362⟩, cr361, hf⟩ := Option.bind_eq_some_iff.mp hf
        try dsimp only at hf
        refine And.intro hg360 (And.intro (Nat.le_of_ble_eq_true rfl) (And.intro (Nat.le_of_ble_eq_true rfl) (Exists.intro (some (.int r361)) (Exists.intro _ (And.intro (l_278 cr361) (?_))))))
        refine And.intro (fun (hc363 : r359 = r361) => ?_) (fun (hc363 : ¬ (r359 = r361)) => ?_)
        · rw [if_pos hc363] at hf
          refine hG.1 98 2006 kb_307_2006 _ _ _ rfl ?_
          cases hf
          exact hk
        · rw [if_neg hc363] at hf
          cases hf
          cases hk
          exact And.intro (fun _ => Or.inl rfl) (And.intro rfl rfl)
      rw [if_neg hc354] at hf
      by_cases hc364 : ((xs.getD s.1.toNatClampNeg 0) &&& 63) = 27
      · rw [if_pos hc364] at hf
        refine pb_gs (G := G) (tgt := 1446) (show pb_swt 33 1973 0 39 #[175, 238, 261, 294, 317, 350, 393, 426, 479, 512, 571, 630, 690, 739, 818, 914, 957, 990, 1043, 1086, 1119, 1152, 1195, 1244, 1277, 1310, 1370, 1413, 1446, 1489, 1522, 1591, 1624, 1683, 1742, 1785, 1855, 1904, 1927, 1950] ((xs.getD s.1.toNatClampNeg 0) &&& 63) = 1446 by rw [hc364]; decide) ?_
        refine hG.1 65 1446 kb_307_1446 _ _ _ rfl ?_
        obtain ⟨hg365, hf⟩ := pb_gd hf
        obtain ⟨hg366, hf⟩ := pb_gd hf
        obtain ⟨hg367, hf⟩ := pb_gd hf
        refine And.intro hg365 (And.intro hg366 (?_))
        obtain ⟨r368, cr368, hf⟩ := Option.bind_eq_some_iff.mp hf
        refine And.intro hg367 (And.intro (Nat.le_of_ble_eq_true rfl) (And.intro (Nat.le_of_ble_eq_true rfl) (Exists.intro (some (.int r368)) (Exists.intro _ (And.intro (l_151 cr368) (?_))))))
        obtain ⟨hg369, hf⟩ := pb_gd hf
        refine And.intro hg365 (And.intro hg366 (?_))
        obtain ⟨⟨r370, h371⟩, cr370, hf⟩ := Option.bind_eq_some_iff.mp hf
        try dsimp only at hf
        refine And.intro hg369 (And.intro (Nat.le_of_ble_eq_true rfl) (And.intro (Nat.le_of_ble_eq_true rfl) (Exists.intro (some (.int r370)) (Exists.intro _ (And.intro (l_280 cr370) (?_))))))
        refine And.intro (fun (hc372 : r368 = r370) => ?_) (fun (hc372 : ¬ (r368 = r370)) => ?_)
        · rw [if_pos hc372] at hf
          refine hG.1 98 2006 kb_307_2006 _ _ _ rfl ?_
          cases hf
          exact hk
        · rw [if_neg hc372] at hf
          cases hf
          cases hk
          exact And.intro (fun _ => Or.inl rfl) (And.intro rfl rfl)
      rw [if_neg hc364] at hf
      by_cases hc373 : ((xs.getD s.1.toNatClampNeg 0) &&& 63) = 28
      · rw [if_pos hc373] at hf
        refine pb_gs (G := G) (tgt := 1479) (show pb_swt 33 1973 0 39 #[175, 238, 261, 294, 317, 350, 393, 426, 479, 512, 571, 630, 690, 739, 818, 914, 957, 990, 1043, 1086, 1119, 1152, 1195, 1244, 1277, 1310, 1370, 1413, 1446, 1489, 1522, 1591, 1624, 1683, 1742, 1785, 1855, 1904, 1927, 1950] ((xs.getD s.1.toNatClampNeg 0) &&& 63) = 1479 by rw [hc373]; decide) ?_
        refine hG.1 66 1479 kb_307_1479 _ _ _ rfl ?_
        obtain ⟨hg374, hf⟩ := pb_gd hf
        obtain ⟨hg375, hf⟩ := pb_gd hf
        obtain ⟨hg376, hf⟩ := pb_gd hf
        obtain ⟨hg377, hf⟩ := pb_gd hf
        refine And.intro hg374 (And.intro hg375 (And.intro hg376 (?_)))
        obtain ⟨⟨r378, h379⟩, cr378, hf⟩ := Option.bind_eq_some_iff.mp hf
        try dsimp only at hf
        refine And.intro hg377 (And.intro (Nat.le_of_ble_eq_true rfl) (And.intro (Nat.le_of_ble_eq_true rfl) (Exists.intro (some (.int r378)) (Exists.intro _ (And.intro (l_152 cr378) (?_))))))
        obtain ⟨hg380, hf⟩ := pb_gd hf
        obtain ⟨hg381, hf⟩ := pb_gd hf
        obtain ⟨hg382, hf⟩ := pb_gd hf
        obtain ⟨hg383, hf⟩ := pb_gd hf
        refine And.intro hg380 (And.intro hg381 (And.intro hg382 (?_)))
        obtain ⟨⟨r384, h385⟩, cr384, hf⟩ := Option.bind_eq_some_iff.mp hf
        try dsimp only at hf
        refine And.intro hg383 (And.intro (Nat.le_of_ble_eq_true rfl) (And.intro (Nat.le_of_ble_eq_true rfl) (Exists.intro (some (.int r384)) (Exists.intro _ (And.intro (l_284 cr384) (?_))))))
        refine And.intro (fun (hc386 : r378 = r384) => ?_) (fun (hc386 : ¬ (r378 = r384)) => ?_)
        · rw [if_pos hc386] at hf
          refine hG.1 98 2006 kb_307_2006 _ _ _ rfl ?_
          cases hf
          exact hk
        · rw [if_neg hc386] at hf
          cases hf
          cases hk
          exact And.intro (fun _ => Or.inl rfl) (And.intro rfl rfl)
      rw [if_neg hc373] at hf
      by_cases hc387 : ((xs.getD s.1.toNatClampNeg 0) &&& 63) = 29
      · rw [if_pos hc387] at hf
        refine pb_gs (G := G) (tgt := 1522) (show pb_swt 33 1973 0 39 #[175, 238, 261, 294, 317, 350, 393, 426, 479, 512, 571, 630, 690, 739, 818, 914, 957, 990, 1043, 1086, 1119, 1152, 1195, 1244, 1277, 1310, 1370, 1413, 1446, 1489, 1522, 1591, 1624, 1683, 1742, 1785, 1855, 1904, 1927, 1950] ((xs.getD s.1.toNatClampNeg 0) &&& 63) = 1522 by rw [hc387]; decide) ?_
        refine hG.1 67 1522 kb_307_1522 _ _ _ rfl ?_
        obtain ⟨hg388, hf⟩ := pb_gd hf
        obtain ⟨hg389, hf⟩ := pb_gd hf
        obtain ⟨hg390, hf⟩ := pb_gd hf
        refine And.intro hg388 (And.intro hg389 (?_))
        obtain ⟨⟨r391, h392⟩, cr391, hf⟩ := Option.bind_eq_some_iff.mp hf
        try dsimp only at hf
        refine And.intro hg390 (And.intro (Nat.le_of_ble_eq_true rfl) (And.intro (Nat.le_of_ble_eq_true rfl) (Exists.intro (some (.int r391)) (Exists.intro _ (And.intro (l_153 cr391) (?_))))))
        obtain ⟨hg393, hf⟩ := pb_gd hf
        obtain ⟨hg394, hf⟩ := pb_gd hf
        obtain ⟨hg395, hf⟩ := pb_gd hf
        refine And.intro hg393 (And.intro hg394 (?_))
        obtain ⟨⟨r396, h397⟩, cr396, hf⟩ := Option.bind_eq_some_iff.mp hf
        try dsimp only at hf
        refine And.intro hg395 (And.intro (Nat.le_of_ble_eq_true rfl) (And.intro (Nat.le_of_ble_eq_true rfl) (Exists.intro (some (.int r396)) (Exists.intro _ (And.intro (l_285 cr396) (?_))))))
        refine And.intro (fun (hc398 : r391 = r396) => ?_) (fun (hc398 : ¬ (r391 = r396)) => ?_)
        · rw [if_pos hc398] at hf
          refine hG.1 98 2006 kb_307_2006 _ _ _ rfl ?_
          cases hf
          exact hk
        · rw [if_neg hc398] at hf
          cases hf
          cases hk
          exact And.intro (fun _ => Or.inl rfl) (And.intro rfl rfl)
      rw [if_neg hc387] at hf
      by_cases hc399 : ((xs.getD s.1.toNatClampNeg 0) &&& 63) = 30
      · rw [if_pos hc399] at hf
        refine pb_gs (G := G) (tgt := 1555) (show pb_swt 33 1973 0 39 #[175, 238, 261, 294, 317, 350, 393, 426, 479, 512, 571, 630, 690, 739, 818, 914, 957, 990, 1043, 1086, 1119, 1152, 1195, 1244, 1277, 1310, 1370, 1413, 1446, 1489, 1522, 1591, 1624, 1683, 1742, 1785, 1855, 1904, 1927, 1950] ((xs.getD s.1.toNatClampNeg 0) &&& 63) = 1555 by rw [hc399]; decide) ?_
        refine hG.1 68 1555 kb_307_1555 _ _ _ rfl ?_
        obtain ⟨hg400, hf⟩ := pb_gd hf
        obtain ⟨hg401, hf⟩ := pb_gd hf
        obtain ⟨hg402, hf⟩ := pb_gd hf
        obtain ⟨hg403, hf⟩ := pb_gd hf
        refine And.intro hg400 (And.intro hg401 (And.intro hg402 (And.intro hg403 (?_))))
        refine And.intro (fun (hc415 : (xs.getD (s.1 + 4).toNatClampNeg 0) = 0) => ?_) (fun (hc415 : ¬ ((xs.getD (s.1 + 4).toNatClampNeg 0) = 0)) => ?_)
        · rw [if_pos hc415] at hf
          refine hG.1 69 1583 kb_307_1583 _ _ _ rfl ?_
          exact hj_1584 _ _ _ _ _ _ _ _ _ _ hf hk
        · rw [if_neg hc415] at hf
          exact hj_1584 _ _ _ _ _ _ _ _ _ _ hf hk
      rw [if_neg hc399] at hf
      by_cases hc416 : ((xs.getD s.1.toNatClampNeg 0) &&& 63) = 31
      · rw [if_pos hc416] at hf
        refine pb_gs (G := G) (tgt := 1624) (show pb_swt 33 1973 0 39 #[175, 238, 261, 294, 317, 350, 393, 426, 479, 512, 571, 630, 690, 739, 818, 914, 957, 990, 1043, 1086, 1119, 1152, 1195, 1244, 1277, 1310, 1370, 1413, 1446, 1489, 1522, 1591, 1624, 1683, 1742, 1785, 1855, 1904, 1927, 1950] ((xs.getD s.1.toNatClampNeg 0) &&& 63) = 1624 by rw [hc416]; decide) ?_
        refine hG.1 73 1624 kb_307_1624 _ _ _ rfl ?_
        obtain ⟨hg417, hf⟩ := pb_gd hf
        obtain ⟨hg418, hf⟩ := pb_gd hf
        obtain ⟨hg419, hf⟩ := pb_gd hf
        refine And.intro hg417 (And.intro hg418 (?_))
        obtain ⟨⟨r420, h421⟩, cr420, hf⟩ := Option.bind_eq_some_iff.mp hf
        try dsimp only at hf
        refine And.intro hg419 (And.intro (Nat.le_of_ble_eq_true rfl) (And.intro (Nat.le_of_ble_eq_true rfl) (Exists.intro (some (.int r420)) (Exists.intro _ (And.intro (l_155 cr420) (?_))))))
        obtain ⟨hg422, hf⟩ := pb_gd hf
        obtain ⟨hg423, hf⟩ := pb_gd hf
        obtain ⟨hg424, hf⟩ := pb_gd hf
        refine And.intro hg422 (And.intro hg423 (?_))
        obtain ⟨⟨r425, h426⟩, cr425, hf⟩ := Option.bind_eq_some_iff.mp hf
        try dsimp only at hf
        refine And.intro hg424 (And.intro (Nat.le_of_ble_eq_true rfl) (And.intro (Nat.le_of_ble_eq_true rfl) (Exists.intro (some (.int r425)) (Exists.intro _ (And.intro (l_292 cr425) (?_))))))
        refine And.intro (fun (hc427 : r420 = r425) => ?_) (fun (hc427 : ¬ (r420 = r425)) => ?_)
        · rw [if_pos hc427] at hf
          refine hG.1 98 2006 kb_307_2006 _ _ _ rfl ?_
          cases hf
          exact hk
        · rw [if_neg hc427] at hf
          cases hf
          cases hk
          exact And.intro (fun _ => Or.inl rfl) (And.intro rfl rfl)
      rw [if_neg hc416] at hf
      by_cases hc428 : ((xs.getD s.1.toNatClampNeg 0) &&& 63) = 32
      · rw [if_pos hc428] at hf
        refine pb_gs (G := G) (tgt := 1657) (show pb_swt 33 1973 0 39 #[175, 238, 261, 294, 317, 350, 393, 426, 479, 512, 571, 630, 690, 739, 818, 914, 957, 990, 1043, 1086, 1119, 1152, 1195, 1244, 1277, 1310, 1370, 1413, 1446, 1489, 1522, 1591, 1624, 1683, 1742, 1785, 1855, 1904, 1927, 1950] ((xs.getD s.1.toNatClampNeg 0) &&& 63) = 1657 by rw [hc428]; decide) ?_
        refine hG.1 74 1657 kb_307_1657 _ _ _ rfl ?_
        obtain ⟨hg429, hf⟩ := pb_gd hf
        obtain ⟨hg430, hf⟩ := pb_gd hf
        obtain ⟨hg431, hf⟩ := pb_gd hf
        refine And.intro hg429 (And.intro hg430 (And.intro hg431 (?_)))
        refine And.intro (fun (hc443 : (xs.getD (s.1 + 3).toNatClampNeg 0) = 0) => ?_) (fun (hc443 : ¬ ((xs.getD (s.1 + 3).toNatClampNeg 0) = 0)) => ?_)
        · rw [if_pos hc443] at hf
          refine hG.1 75 1680 kb_307_1680 _ _ _ rfl ?_
          exact hj_1681 _ _ _ _ _ _ _ _ _ hf hk
        · rw [if_neg hc443] at hf
          exact hj_1681 _ _ _ _ _ _ _ _ _ hf hk
      rw [if_neg hc428] at hf
      by_cases hc444 : ((xs.getD s.1.toNatClampNeg 0) &&& 63) = 33
      · rw [if_pos hc444] at hf
        refine pb_gs (G := G) (tgt := 1716) (show pb_swt 33 1973 0 39 #[175, 238, 261, 294, 317, 350, 393, 426, 479, 512, 571, 630, 690, 739, 818, 914, 957, 990, 1043, 1086, 1119, 1152, 1195, 1244, 1277, 1310, 1370, 1413, 1446, 1489, 1522, 1591, 1624, 1683, 1742, 1785, 1855, 1904, 1927, 1950] ((xs.getD s.1.toNatClampNeg 0) &&& 63) = 1716 by rw [hc444]; decide) ?_
        refine hG.1 79 1716 kb_307_1716 _ _ _ rfl ?_
        obtain ⟨hg445, hf⟩ := pb_gd hf
        obtain ⟨hg446, hf⟩ := pb_gd hf
        obtain ⟨hg447, hf⟩ := pb_gd hf
        refine And.intro hg445 (And.intro hg446 (And.intro hg447 (?_)))
        refine And.intro (fun (hc459 : (xs.getD (s.1 + 3).toNatClampNeg 0) = 0) => ?_) (fun (hc459 : ¬ ((xs.getD (s.1 + 3).toNatClampNeg 0) = 0)) => ?_)
        · rw [if_pos hc459] at hf
          refine hG.1 80 1739 kb_307_1739 _ _ _ rfl ?_
          exact hj_1740 _ _ _ _ _ _ _ _ _ hf hk
        · rw [if_neg hc459] at hf
          exact hj_1740 _ _ _ _ _ _ _ _ _ hf hk
      rw [if_neg hc444] at hf
      by_cases hc460 : ((xs.getD s.1.toNatClampNeg 0) &&& 63) = 34
      · rw [if_pos hc460] at hf
        refine pb_gs (G := G) (tgt := 1775) (show pb_swt 33 1973 0 39 #[175, 238, 261, 294, 317, 350, 393, 426, 479, 512, 571, 630, 690, 739, 818, 914, 957, 990, 1043, 1086, 1119, 1152, 1195, 1244, 1277, 1310, 1370, 1413, 1446, 1489, 1522, 1591, 1624, 1683, 1742, 1785, 1855, 1904, 1927, 1950] ((xs.getD s.1.toNatClampNeg 0) &&& 63) = 1775 by rw [hc460]; decide) ?_
        refine hG.1 84 1775 kb_307_1775 _ _ _ rfl ?_
        obtain ⟨hg461, hf⟩ := pb_gd hf
        obtain ⟨hg462, hf⟩ := pb_gd hf
        obtain ⟨hg463, hf⟩ := pb_gd hf
        obtain ⟨hg464, hf⟩ := pb_gd hf
        refine And.intro hg461 (And.intro hg462 (And.intro hg463 (?_)))
        obtain ⟨⟨r465, h466⟩, cr465, hf⟩ := Option.bind_eq_some_iff.mp hf
        try dsimp only at hf
        refine And.intro hg464 (And.intro (Nat.le_of_ble_eq_true rfl) (And.intro (Nat.le_of_ble_eq_true rfl) (Exists.intro (some (.int r465)) (Exists.intro _ (And.intro (l_158 cr465) (?_))))))
        obtain ⟨hg467, hf⟩ := pb_gd hf
        obtain ⟨hg468, hf⟩ := pb_gd hf
        obtain ⟨hg469, hf⟩ := pb_gd hf
        obtain ⟨hg470, hf⟩ := pb_gd hf
        refine And.intro hg467 (And.intro hg468 (And.intro hg469 (?_)))
        obtain ⟨⟨r471, h472⟩, cr471, hf⟩ := Option.bind_eq_some_iff.mp hf
        try dsimp only at hf
        refine And.intro hg470 (And.intro (Nat.le_of_ble_eq_true rfl) (And.intro (Nat.le_of_ble_eq_true rfl) (Exists.intro (some (.int r471)) (Exists.intro _ (And.intro (l_299 cr471) (?_))))))
        refine And.intro (fun (hc473 : r465 = r471) => ?_) (fun (hc473 : ¬ (r465 = r471)) => ?_)
        · rw [if_pos hc473] at hf
          refine hG.1 98 2006 kb_307_2006 _ _ _ rfl ?_
          cases hf
          exact hk
        · rw [if_neg hc473] at hf
          cases hf
          cases hk
          exact And.intro (fun _ => Or.inl rfl) (And.intro rfl rfl)
      rw [if_neg hc460] at hf
      by_cases hc474 : ((xs.getD s.1.toNatClampNeg 0) &&& 63) = 35
      · rw [if_pos hc474] at hf
        refine pb_gs (G := G) (tgt := 1818) (show pb_swt 33 1973 0 39 #[175, 238, 261, 294, 317, 350, 393, 426, 479, 512, 571, 630, 690, 739, 818, 914, 957, 990, 1043, 1086, 1119, 1152, 1195, 1244, 1277, 1310, 1370, 1413, 1446, 1489, 1522, 1591, 1624, 1683, 1742, 1785, 1855, 1904, 1927, 1950] ((xs.getD s.1.toNatClampNeg 0) &&& 63) = 1818 by rw [hc474]; decide) ?_
        refine hG.1 85 1818 kb_307_1818 _ _ _ rfl ?_
        obtain ⟨hg475, hf⟩ := pb_gd hf
        obtain ⟨hg476, hf⟩ := pb_gd hf
        obtain ⟨hg477, hf⟩ := pb_gd hf
        obtain ⟨hg478, hf⟩ := pb_gd hf
        refine And.intro hg475 (And.intro hg476 (And.intro hg477 (And.intro hg478 (?_))))
        refine And.intro (fun (hc491 : (xs.getD (s.1 + 4).toNatClampNeg 0) = 0) => ?_) (fun (hc491 : ¬ ((xs.getD (s.1 + 4).toNatClampNeg 0) = 0)) => ?_)
        · rw [if_pos hc491] at hf
          refine hG.1 86 1846 kb_307_1846 _ _ _ rfl ?_
          exact hj_1847 _ _ _ _ _ _ _ _ _ _ hf hk
        · rw [if_neg hc491] at hf
          exact hj_1847 _ _ _ _ _ _ _ _ _ _ hf hk
      rw [if_neg hc474] at hf
      by_cases hc492 : ((xs.getD s.1.toNatClampNeg 0) &&& 63) = 36
      · rw [if_pos hc492] at hf
        refine pb_gs (G := G) (tgt := 1888) (show pb_swt 33 1973 0 39 #[175, 238, 261, 294, 317, 350, 393, 426, 479, 512, 571, 630, 690, 739, 818, 914, 957, 990, 1043, 1086, 1119, 1152, 1195, 1244, 1277, 1310, 1370, 1413, 1446, 1489, 1522, 1591, 1624, 1683, 1742, 1785, 1855, 1904, 1927, 1950] ((xs.getD s.1.toNatClampNeg 0) &&& 63) = 1888 by rw [hc492]; decide) ?_
        refine hG.1 90 1888 kb_307_1888 _ _ _ rfl ?_
        obtain ⟨hg493, hf⟩ := pb_gd hf
        obtain ⟨hg494, hf⟩ := pb_gd hf
        refine And.intro hg493 (And.intro hg494 (?_))
        refine And.intro (fun (hc505 : (xs.getD (s.1 + 2).toNatClampNeg 0) = 0) => ?_) (fun (hc505 : ¬ ((xs.getD (s.1 + 2).toNatClampNeg 0) = 0)) => ?_)
        · rw [if_pos hc505] at hf
          refine hG.1 91 1906 kb_307_1906 _ _ _ rfl ?_
          exact hj_1907 _ _ _ _ _ _ _ _ hf hk
        · rw [if_neg hc505] at hf
          exact hj_1907 _ _ _ _ _ _ _ _ hf hk
      rw [if_neg hc492] at hf
      by_cases hc506 : ((xs.getD s.1.toNatClampNeg 0) &&& 63) = 37
      · rw [if_pos hc506] at hf
        refine pb_gs (G := G) (tgt := 1937) (show pb_swt 33 1973 0 39 #[175, 238, 261, 294, 317, 350, 393, 426, 479, 512, 571, 630, 690, 739, 818, 914, 957, 990, 1043, 1086, 1119, 1152, 1195, 1244, 1277, 1310, 1370, 1413, 1446, 1489, 1522, 1591, 1624, 1683, 1742, 1785, 1855, 1904, 1927, 1950] ((xs.getD s.1.toNatClampNeg 0) &&& 63) = 1937 by rw [hc506]; decide) ?_
        refine hG.1 95 1937 kb_307_1937 _ _ _ rfl ?_
        obtain ⟨hg507, hf⟩ := pb_gd hf
        obtain ⟨hg508, hf⟩ := pb_gd hf
        refine And.intro hg507 (?_)
        obtain ⟨r509, cr509, hf⟩ := Option.bind_eq_some_iff.mp hf
        refine And.intro hg508 (And.intro (Nat.le_of_ble_eq_true rfl) (And.intro (Nat.le_of_ble_eq_true rfl) (Exists.intro (some (.int r509)) (Exists.intro _ (And.intro (l_161 cr509) (?_))))))
        obtain ⟨hg510, hf⟩ := pb_gd hf
        refine And.intro hg507 (?_)
        obtain ⟨⟨r511, h512⟩, cr511, hf⟩ := Option.bind_eq_some_iff.mp hf
        try dsimp only at hf
        refine And.intro hg510 (And.intro (Nat.le_of_ble_eq_true rfl) (And.intro (Nat.le_of_ble_eq_true rfl) (Exists.intro (some (.int r511)) (Exists.intro _ (And.intro (l_302 cr511) (?_))))))
        refine And.intro (fun (hc513 : r509 = r511) => ?_) (fun (hc513 : ¬ (r509 = r511)) => ?_)
        · rw [if_pos hc513] at hf
          refine hG.1 98 2006 kb_307_2006 _ _ _ rfl ?_
          cases hf
          exact hk
        · rw [if_neg hc513] at hf
          cases hf
          cases hk
          exact And.intro (fun _ => Or.inl rfl) (And.intro rfl rfl)
      rw [if_neg hc506] at hf
      by_cases hc514 : ((xs.getD s.1.toNatClampNeg 0) &&& 63) = 38
      · rw [if_pos hc514] at hf
        refine pb_gs (G := G) (tgt := 1960) (show pb_swt 33 1973 0 39 #[175, 238, 261, 294, 317, 350, 393, 426, 479, 512, 571, 630, 690, 739, 818, 914, 957, 990, 1043, 1086, 1119, 1152, 1195, 1244, 1277, 1310, 1370, 1413, 1446, 1489, 1522, 1591, 1624, 1683, 1742, 1785, 1855, 1904, 1927, 1950] ((xs.getD s.1.toNatClampNeg 0) &&& 63) = 1960 by rw [hc514]; decide) ?_
        refine hG.1 96 1960 kb_307_1960 _ _ _ rfl ?_
        obtain ⟨hg515, hf⟩ := pb_gd hf
        obtain ⟨hg516, hf⟩ := pb_gd hf
        refine And.intro hg515 (?_)
        obtain ⟨⟨r517, h518⟩, cr517, hf⟩ := Option.bind_eq_some_iff.mp hf
        try dsimp only at hf
        refine And.intro hg516 (And.intro (Nat.le_of_ble_eq_true rfl) (And.intro (Nat.le_of_ble_eq_true rfl) (Exists.intro (some (.int r517)) (Exists.intro _ (And.intro (l_162 cr517) (?_))))))
        obtain ⟨hg519, hf⟩ := pb_gd hf
        obtain ⟨hg520, hf⟩ := pb_gd hf
        refine And.intro hg519 (?_)
        obtain ⟨⟨r521, h522⟩, cr521, hf⟩ := Option.bind_eq_some_iff.mp hf
        try dsimp only at hf
        refine And.intro hg520 (And.intro (Nat.le_of_ble_eq_true rfl) (And.intro (Nat.le_of_ble_eq_true rfl) (Exists.intro (some (.int r521)) (Exists.intro _ (And.intro (l_303 cr521) (?_))))))
        refine And.intro (fun (hc523 : r517 = r521) => ?_) (fun (hc523 : ¬ (r517 = r521)) => ?_)
        · rw [if_pos hc523] at hf
          refine hG.1 98 2006 kb_307_2006 _ _ _ rfl ?_
          cases hf
          exact hk
        · rw [if_neg hc523] at hf
          cases hf
          cases hk
          exact And.intro (fun _ => Or.inl rfl) (And.intro rfl rfl)
      rw [if_neg hc514] at hf
      by_cases hc524 : ((xs.getD s.1.toNatClampNeg 0) &&& 63) = 39
      · rw [if_pos hc524] at hf
        refine pb_gs (G := G) (tgt := 1983) (show pb_swt 33 1973 0 39 #[175, 238, 261, 294, 317, 350, 393, 426, 479, 512, 571, 630, 690, 739, 818, 914, 957, 990, 1043, 1086, 1119, 1152, 1195, 1244, 1277, 1310, 1370, 1413, 1446, 1489, 1522, 1591, 1624, 1683, 1742, 1785, 1855, 1904, 1927, 1950] ((xs.getD s.1.toNatClampNeg 0) &&& 63) = 1983 by rw [hc524]; decide) ?_
        refine hG.1 97 1983 kb_307_1983 _ _ _ rfl ?_
        obtain ⟨hg525, hf⟩ := pb_gd hf
        obtain ⟨hg526, hf⟩ := pb_gd hf
        refine And.intro hg525 (?_)
        obtain ⟨⟨r527, h528⟩, cr527, hf⟩ := Option.bind_eq_some_iff.mp hf
        try dsimp only at hf
        refine And.intro hg526 (And.intro (Nat.le_of_ble_eq_true rfl) (And.intro (Nat.le_of_ble_eq_true rfl) (Exists.intro (some (.int r527)) (Exists.intro _ (And.intro (l_163 cr527) (?_))))))
        obtain ⟨hg529, hf⟩ := pb_gd hf
        obtain ⟨hg530, hf⟩ := pb_gd hf
        refine And.intro hg529 (?_)
        obtain ⟨⟨r531, h532⟩, cr531, hf⟩ := Option.bind_eq_some_iff.mp hf
        try dsimp only at hf
        refine And.intro hg530 (And.intro (Nat.le_of_ble_eq_true rfl) (And.intro (Nat.le_of_ble_eq_true rfl) (Exists.intro (some (.int r531)) (Exists.intro _ (And.intro (l_304 cr531) (?_))))))
        refine And.intro (fun (hc533 : r527 = r531) => ?_) (fun (hc533 : ¬ (r527 = r531)) => ?_)
        · rw [if_pos hc533] at hf
          refine hG.1 98 2006 kb_307_2006 _ _ _ rfl ?_
          cases hf
          exact hk
        · rw [if_neg hc533] at hf
          cases hf
          cases hk
          exact And.intro (fun _ => Or.inl rfl) (And.intro rfl rfl)
      rw [if_neg hc524] at hf
      refine pb_gs (G := G) (tgt := 2006) (show pb_swt 33 1973 0 39 #[175, 238, 261, 294, 317, 350, 393, 426, 479, 512, 571, 630, 690, 739, 818, 914, 957, 990, 1043, 1086, 1119, 1152, 1195, 1244, 1277, 1310, 1370, 1413, 1446, 1489, 1522, 1591, 1624, 1683, 1742, 1785, 1855, 1904, 1927, 1950] ((xs.getD s.1.toNatClampNeg 0) &&& 63) = 2006 from pb_swd (by decide) (by decide) (fun k_ hk_ => by
        have hk_ : k_ < 40 := hk_
        match k_, hk_ with
        | 0, _ => exact hc8
        | 1, _ => exact hc26
        | 2, _ => exact hc36
        | 3, _ => exact hc48
        | 4, _ => exact hc56
        | 5, _ => exact hc65
        | 6, _ => exact hc75
        | 7, _ => exact hc87
        | 8, _ => exact hc103
        | 9, _ => exact hc115
        | 10, _ => exact hc131
        | 11, _ => exact hc147
        | 12, _ => exact hc163
        | 13, _ => exact hc177
        | 14, _ => exact hc197
        | 15, _ => exact hc218
        | 16, _ => exact hc228
        | 17, _ => exact hc240
        | 18, _ => exact hc256
        | 19, _ => exact hc270
        | 20, _ => exact hc282
        | 21, _ => exact hc294
        | 22, _ => exact hc308
        | 23, _ => exact hc321
        | 24, _ => exact hc330
        | 25, _ => exact hc339
        | 26, _ => exact hc354
        | 27, _ => exact hc364
        | 28, _ => exact hc373
        | 29, _ => exact hc387
        | 30, _ => exact hc399
        | 31, _ => exact hc416
        | 32, _ => exact hc428
        | 33, _ => exact hc444
        | 34, _ => exact hc460
        | 35, _ => exact hc474
        | 36, _ => exact hc492
        | 37, _ => exact hc506
        | 38, _ => exact hc514
        | 39, _ => exact hc524
        | k_ + 40, hk_ => omega)) ?_
      refine hG.1 98 2006 kb_307_2006 _ _ _ rfl ?_
      cases hf
      exact hk
  unfold f_307 at hf
  refine hG.1 0 0 kb_307_0 _ _ _ rfl ?_
  obtain ⟨hg1, hf⟩ := pb_gd hf
  refine And.intro hg1 (?_)
  obtain ⟨h3, cr2, hf⟩ := Option.bind_eq_some_iff.mp hf
  refine And.intro (Nat.le_of_ble_eq_true rfl) (And.intro (Nat.le_of_ble_eq_true rfl) (Exists.intro none (Exists.intro _ (And.intro (l_123 cr2) (?_)))))
  obtain ⟨hg4, hf⟩ := pb_gd hf
  refine And.intro hg4 (?_)
  obtain ⟨h6, cr5, hf⟩ := Option.bind_eq_some_iff.mp hf
  refine And.intro (Nat.le_of_ble_eq_true rfl) (And.intro (Nat.le_of_ble_eq_true rfl) (Exists.intro none (Exists.intro _ (And.intro (l_167 cr5) (?_)))))
  obtain ⟨e535, he_e535, hf⟩ := Option.bind_eq_some_iff.mp hf
  refine hl_18 _ _ _ _ _ he_e535 ?_
  cases e535 with
  | inl q537 =>
    exact Option.some.inj hf
  | inr x536 =>
    try dsimp only at hf
    refine hG.1 99 2012 kb_307_2012 _ _ _ rfl ?_
    cases hf
    exact And.intro (fun _ => Or.inr rfl) (And.intro rfl rfl)
