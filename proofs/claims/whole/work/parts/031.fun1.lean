def pb_wl {S E : Type} (f : S → Option (S ⊕ E)) : Nat → S → Option E
  | 0, _ => none
  | n + 1, s => match f s with
    | some (.inl s') => pb_wl f n s'
    | some (.inr e) => some e
    | none => none
def pb_kk {S E : Type} (I : S → Prop) (K : E → Prop) (x : S ⊕ E) : Prop := match x with | .inl s => I s | .inr e => K e
theorem pb_wl_ind {S E : Type} {f : S → Option (S ⊕ E)} {I : S → Prop} {K : E → Prop} (hs : ∀ s x, f s = some x → pb_kk I K x → I s) : ∀ (n : Nat) (s : S) (e : E), pb_wl f n s = some e → K e → I s := by
  intro n
  induction n with
  | zero => intro s e hf; cases hf
  | succ n ih =>
    intro s e hf hk
    unfold pb_wl at hf
    cases hx : f s with
    | none => rw [hx] at hf; cases hf
    | some x =>
      rw [hx] at hf
      refine hs s x hx ?_
      cases x with
      | inl s' => exact ih s' e hf hk
      | inr e' => cases hf; exact hk
theorem pb_gd {α : Type} {c : Prop} [Decidable c] {x : Option α} {r : α} (h : (if c then x else none) = some r) : c ∧ x = some r := by
  by_cases hc : c
  · rw [if_pos hc] at h; exact ⟨hc, h⟩
  · rw [if_neg hc] at h; cases h
def pb_rv (r : Option Nat) : Value := match r with | none => .null | some a => .ref a
theorem pb_gs {G : Nat → pb_LS → List Value → pb_HP → Prop} {pc tgt : Nat} {ls : pb_LS} {st : List Value} {h : pb_HP} (e : pc = tgt) (k : G tgt ls st h) : G pc ls st h := e ▸ k
theorem pb_swd {pc t : Nat} {d lo hi : Int} {offs : Array Int} {x : Int32} (h1 : ((pc : Int) + d).toNat = t) (h2 : -1000 ≤ lo ∧ hi ≤ 1000 ∧ lo ≤ hi + 1) (h : ∀ k : Nat, k < (hi - lo + 1).toNat → ¬ x = Int32.ofInt (lo + k)) : pb_swt pc d lo hi offs x = t := by
  unfold pb_swt
  by_cases q : x.toInt < lo ∨ hi < x.toInt
  · rw [if_pos q]; exact h1
  · exfalso
    refine h (x.toInt - lo).toNat (by omega) ?_
    rw [show lo + ((x.toInt - lo).toNat : Int) = x.toInt by omega, Int32.ofInt_toInt]
def pb_hb {β : Type} (a : pb_HP) (k : pb_HP → Option β) : Option β := k a
theorem pb_hbd {β : Type} {E h1 : pb_HP} {k : pb_HP → Option β} {r : β} (hf : pb_hb E k = some r) (e : h1 = E) : k h1 = some r := by subst e; exact hf
theorem pb_hset {CR : Nat → pb_HP → List Value → Option Value → pb_HP → Prop} {FIN : Option Value → pb_HP → Prop} {G : Nat → pb_LS → List Value → pb_HP → Prop} {mL rz : Nat} {xs : List Int32} {B : List pb_El} {pc : Nat} {ls : pb_LS} {st : List Value} {H E : pb_HP} (e : H = E) (k : ∀ h1, h1 = E → pb_bw CR G FIN mL rz xs B pc ls st h1) : pb_bw CR G FIN mL rz xs B pc ls st H := k H e
theorem pb_isx {h1 E : pb_HP} {o c : Nat} (e : h1 = E) (h : pb_is E o c) : pb_is h1 o c := by subst e; exact h
theorem pb_arx {h1 E : pb_HP} {o c : Nat} {i : Int32} (e : h1 = E) (h : pb_ar E o c i) : pb_ar h1 o c i := by subst e; exact h
theorem pb_Rx {h1 E : pb_HP} {o k q : Nat} (e : h1 = E) (h : pb_R E o k = some q) : pb_R h1 o k = some q := by subst e; exact h
def pb_bytB (f : Nat → Int32) (sp n : Nat) : Bool := (List.range n).all (fun i => (f (sp + i)).toInt8.toInt32 == f (sp + i))
theorem pb_bytB_of {f : Nat → Int32} {sp n : Nat} (h : pb_bytB f sp n = true) : pb_byt f sp n := fun i hi => beq_iff_eq.mp (List.all_eq_true.mp h i (List.mem_range.mpr hi))
/-- County.take -/
def f_2 (h : pb_HP) (v0 : Nat) (v1 : Nat) : Option (pb_HP) :=
  if pb_is h v1 0 then (if pb_is h v0 0 then ((pb_R h v1 2).bind fun q3 => ((pb_R h v0 2).bind fun q4 => (if pb_is h q3 12 then (if pb_is h q4 12 then (if ((0 : Int32)).toNatClampNeg + ((6 : Int32)).toNatClampNeg ≤ (pb_SH q3).2 then (if ((0 : Int32)).toNatClampNeg + ((6 : Int32)).toNatClampNeg ≤ (pb_SH q4).2 then (pb_hb (pb_pW (pb_pI (pb_pI h v0 0 (pb_I h v1 0)) v0 1 (pb_I (pb_pI h v0 0 (pb_I h v1 0)) v1 1)) q4 (va_cpy (pb_I (pb_pI (pb_pI h v0 0 (pb_I h v1 0)) v0 1 (pb_I (pb_pI h v0 0 (pb_I h v1 0)) v1 1)) q3) (pb_I (pb_pI (pb_pI h v0 0 (pb_I h v1 0)) v0 1 (pb_I (pb_pI h v0 0 (pb_I h v1 0)) v1 1)) q4) ((0 : Int32)).toNatClampNeg ((0 : Int32)).toNatClampNeg ((6 : Int32)).toNatClampNeg)) fun h9 => ((pb_R h v1 3).bind fun q16 => ((pb_R h v0 3).bind fun q18 => (if pb_is h q16 12 then (if pb_is h q18 12 then (if ((0 : Int32)).toNatClampNeg + ((6 : Int32)).toNatClampNeg ≤ (pb_SH q16).2 then (if ((0 : Int32)).toNatClampNeg + ((6 : Int32)).toNatClampNeg ≤ (pb_SH q18).2 then (pb_hb (pb_pW h9 q18 (va_cpy (pb_I h9 q16) (pb_I h9 q18) ((0 : Int32)).toNatClampNeg ((0 : Int32)).toNatClampNeg ((6 : Int32)).toNatClampNeg)) fun h26 => ((pb_R h v1 4).bind fun q37 => ((pb_R h v0 4).bind fun q40 => (if pb_is h q37 12 then (if pb_is h q40 12 then (if ((0 : Int32)).toNatClampNeg + ((6 : Int32)).toNatClampNeg ≤ (pb_SH q37).2 then (if ((0 : Int32)).toNatClampNeg + ((6 : Int32)).toNatClampNeg ≤ (pb_SH q40).2 then (pb_hb (pb_pW h26 q40 (va_cpy (pb_I h26 q37) (pb_I h26 q40) ((0 : Int32)).toNatClampNeg ((0 : Int32)).toNatClampNeg ((6 : Int32)).toNatClampNeg)) fun h51 => ((pb_R h v1 5).bind fun q66 => ((pb_R h v0 5).bind fun q70 => (if pb_is h q66 12 then (if pb_is h q70 12 then (if ((0 : Int32)).toNatClampNeg + ((6 : Int32)).toNatClampNeg ≤ (pb_SH q66).2 then (if ((0 : Int32)).toNatClampNeg + ((6 : Int32)).toNatClampNeg ≤ (pb_SH q70).2 then (pb_hb (pb_pW h51 q70 (va_cpy (pb_I h51 q66) (pb_I h51 q70) ((0 : Int32)).toNatClampNeg ((0 : Int32)).toNatClampNeg ((6 : Int32)).toNatClampNeg)) fun h84 => ((pb_R h v1 6).bind fun q103 => ((pb_R h v0 6).bind fun q108 => (if pb_is h q103 12 then (if pb_is h q108 12 then (if ((0 : Int32)).toNatClampNeg + ((6 : Int32)).toNatClampNeg ≤ (pb_SH q103).2 then (if ((0 : Int32)).toNatClampNeg + ((6 : Int32)).toNatClampNeg ≤ (pb_SH q108).2 then (pb_hb (pb_pW h84 q108 (va_cpy (pb_I h84 q103) (pb_I h84 q108) ((0 : Int32)).toNatClampNeg ((0 : Int32)).toNatClampNeg ((6 : Int32)).toNatClampNeg)) fun h125 => ((pb_R h v1 7).bind fun q148 => ((pb_R h v0 7).bind fun q154 => (if pb_is h q148 12 then (if pb_is h q154 12 then (if ((0 : Int32)).toNatClampNeg + ((36 : Int32)).toNatClampNeg ≤ (pb_SH q148).2 then (if ((0 : Int32)).toNatClampNeg + ((36 : Int32)).toNatClampNeg ≤ (pb_SH q154).2 then (pb_hb (pb_pW h125 q154 (va_cpy (pb_I h125 q148) (pb_I h125 q154) ((0 : Int32)).toNatClampNeg ((0 : Int32)).toNatClampNeg ((36 : Int32)).toNatClampNeg)) fun h174 => (some h174)) else none) else none) else none) else none)))) else none) else none) else none) else none)))) else none) else none) else none) else none)))) else none) else none) else none) else none)))) else none) else none) else none) else none)))) else none) else none) else none) else none))) else none) else none
set_option maxRecDepth 4000 in
theorem l_2 {xs : List Int32} {d : Nat} {h : pb_HP} {v0 : Nat} {v1 : Nat} {hE : pb_HP} (hf : f_2 h v0 v1 = some hE) : pb_AR xs (d + 1) 2 h [.ref v0, .ref v1] none hE := by
  intro G hG
  have hc_ : pb_CODE 2 = kc_2 := rfl
  rw [hc_] at hG
  unfold f_2 at hf
  refine hG.1 0 0 kb_2_0 _ _ _ rfl ?_
  obtain ⟨hg1, hf⟩ := pb_gd hf
  obtain ⟨hg2, hf⟩ := pb_gd hf
  obtain ⟨q3, eq3, hf⟩ := Option.bind_eq_some_iff.mp hf
  obtain ⟨q4, eq4, hf⟩ := Option.bind_eq_some_iff.mp hf
  obtain ⟨hg5, hf⟩ := pb_gd hf
  obtain ⟨hg6, hf⟩ := pb_gd hf
  obtain ⟨hg7, hf⟩ := pb_gd hf
  obtain ⟨hg8, hf⟩ := pb_gd hf
  refine And.intro hg1 (And.intro hg2 (And.intro hg1 (And.intro hg2 (And.intro hg1 (Exists.intro q3 (And.intro eq3 (And.intro hg2 (Exists.intro q4 (And.intro eq4 (And.intro (Or.inl rfl) (And.intro hg5 (And.intro hg6 (And.intro (by decide) (And.intro (by decide) (And.intro (by decide) (And.intro hg7 (And.intro hg8 (And.intro (Nat.le_of_ble_eq_true rfl) (?_)))))))))))))))))))
  refine pb_hset (E := pb_pW (pb_pI (pb_pI h v0 0 (pb_I h v1 0)) v0 1 (pb_I (pb_pI h v0 0 (pb_I h v1 0)) v1 1)) q4 (va_cpy (pb_I (pb_pI (pb_pI h v0 0 (pb_I h v1 0)) v0 1 (pb_I (pb_pI h v0 0 (pb_I h v1 0)) v1 1)) q3) (pb_I (pb_pI (pb_pI h v0 0 (pb_I h v1 0)) v0 1 (pb_I (pb_pI h v0 0 (pb_I h v1 0)) v1 1)) q4) ((0 : Int32)).toNatClampNeg ((0 : Int32)).toNatClampNeg ((6 : Int32)).toNatClampNeg)) rfl (fun h9 eh9 => ?_)
  have hf := pb_hbd hf eh9
  have hg10 : pb_is h9 v1 0 := pb_isx eh9 hg1
  have hg11 : pb_is h9 v0 0 := pb_isx eh9 hg2
  have hg12 : pb_is h9 q3 12 := pb_isx eh9 hg5
  have hg13 : pb_is h9 q4 12 := pb_isx eh9 hg6
  have eq14 : pb_R h9 v1 2 = some q3 := pb_Rx eh9 eq3
  have eq15 : pb_R h9 v0 2 = some q4 := pb_Rx eh9 eq4
  obtain ⟨q16, eq16, hf⟩ := Option.bind_eq_some_iff.mp hf
  have eq17 : pb_R h9 v1 3 = some q16 := pb_Rx eh9 eq16
  obtain ⟨q18, eq18, hf⟩ := Option.bind_eq_some_iff.mp hf
  have eq19 : pb_R h9 v0 3 = some q18 := pb_Rx eh9 eq18
  obtain ⟨hg20, hf⟩ := pb_gd hf
  have hg21 : pb_is h9 q16 12 := pb_isx eh9 hg20
  obtain ⟨hg22, hf⟩ := pb_gd hf
  have hg23 : pb_is h9 q18 12 := pb_isx eh9 hg22
  obtain ⟨hg24, hf⟩ := pb_gd hf
  obtain ⟨hg25, hf⟩ := pb_gd hf
  refine And.intro hg10 (Exists.intro q16 (And.intro eq17 (And.intro hg11 (Exists.intro q18 (And.intro eq19 (And.intro (Or.inl rfl) (And.intro hg21 (And.intro hg23 (And.intro (by decide) (And.intro (by decide) (And.intro (by decide) (And.intro hg24 (And.intro hg25 (And.intro (Nat.le_of_ble_eq_true rfl) (?_)))))))))))))))
  refine pb_hset (E := pb_pW h9 q18 (va_cpy (pb_I h9 q16) (pb_I h9 q18) ((0 : Int32)).toNatClampNeg ((0 : Int32)).toNatClampNeg ((6 : Int32)).toNatClampNeg)) rfl (fun h26 eh26 => ?_)
  have hf := pb_hbd hf eh26
  have hg27 : pb_is h26 v1 0 := pb_isx eh26 hg10
  have hg28 : pb_is h26 v0 0 := pb_isx eh26 hg11
  have hg29 : pb_is h26 q3 12 := pb_isx eh26 hg12
  have hg30 : pb_is h26 q4 12 := pb_isx eh26 hg13
  have hg31 : pb_is h26 q16 12 := pb_isx eh26 hg21
  have hg32 : pb_is h26 q18 12 := pb_isx eh26 hg23
  have eq33 : pb_R h26 v1 2 = some q3 := pb_Rx eh26 eq14
  have eq34 : pb_R h26 v0 2 = some q4 := pb_Rx eh26 eq15
  have eq35 : pb_R h26 v1 3 = some q16 := pb_Rx eh26 eq17
  have eq36 : pb_R h26 v0 3 = some q18 := pb_Rx eh26 eq19
  obtain ⟨q37, eq37, hf⟩ := Option.bind_eq_some_iff.mp hf
  have eq38 : pb_R h9 v1 4 = some q37 := pb_Rx eh9 eq37
  have eq39 : pb_R h26 v1 4 = some q37 := pb_Rx eh26 eq38
  obtain ⟨q40, eq40, hf⟩ := Option.bind_eq_some_iff.mp hf
  have eq41 : pb_R h9 v0 4 = some q40 := pb_Rx eh9 eq40
  have eq42 : pb_R h26 v0 4 = some q40 := pb_Rx eh26 eq41
  obtain ⟨hg43, hf⟩ := pb_gd hf
  have hg44 : pb_is h9 q37 12 := pb_isx eh9 hg43
  have hg45 : pb_is h26 q37 12 := pb_isx eh26 hg44
  obtain ⟨hg46, hf⟩ := pb_gd hf
  have hg47 : pb_is h9 q40 12 := pb_isx eh9 hg46
  have hg48 : pb_is h26 q40 12 := pb_isx eh26 hg47
  obtain ⟨hg49, hf⟩ := pb_gd hf
  obtain ⟨hg50, hf⟩ := pb_gd hf
  refine And.intro hg27 (Exists.intro q37 (And.intro eq39 (And.intro hg28 (Exists.intro q40 (And.intro eq42 (And.intro (Or.inl rfl) (And.intro hg45 (And.intro hg48 (And.intro (by decide) (And.intro (by decide) (And.intro (by decide) (And.intro hg49 (And.intro hg50 (And.intro (Nat.le_of_ble_eq_true rfl) (?_)))))))))))))))
  refine pb_hset (E := pb_pW h26 q40 (va_cpy (pb_I h26 q37) (pb_I h26 q40) ((0 : Int32)).toNatClampNeg ((0 : Int32)).toNatClampNeg ((6 : Int32)).toNatClampNeg)) rfl (fun h51 eh51 => ?_)
  have hf := pb_hbd hf eh51
  have hg52 : pb_is h51 v1 0 := pb_isx eh51 hg27
  have hg53 : pb_is h51 v0 0 := pb_isx eh51 hg28
  have hg54 : pb_is h51 q3 12 := pb_isx eh51 hg29
  have hg55 : pb_is h51 q4 12 := pb_isx eh51 hg30
  have hg56 : pb_is h51 q16 12 := pb_isx eh51 hg31
  have hg57 : pb_is h51 q18 12 := pb_isx eh51 hg32
  have hg58 : pb_is h51 q37 12 := pb_isx eh51 hg45
  have hg59 : pb_is h51 q40 12 := pb_isx eh51 hg48
  have eq60 : pb_R h51 v1 2 = some q3 := pb_Rx eh51 eq33
  have eq61 : pb_R h51 v0 2 = some q4 := pb_Rx eh51 eq34
  have eq62 : pb_R h51 v1 3 = some q16 := pb_Rx eh51 eq35
  have eq63 : pb_R h51 v0 3 = some q18 := pb_Rx eh51 eq36
  have eq64 : pb_R h51 v1 4 = some q37 := pb_Rx eh51 eq39
  have eq65 : pb_R h51 v0 4 = some q40 := pb_Rx eh51 eq42
  obtain ⟨q66, eq66, hf⟩ := Option.bind_eq_some_iff.mp hf
  have eq67 : pb_R h9 v1 5 = some q66 := pb_Rx eh9 eq66
  have eq68 : pb_R h26 v1 5 = some q66 := pb_Rx eh26 eq67
  have eq69 : pb_R h51 v1 5 = some q66 := pb_Rx eh51 eq68
  obtain ⟨q70, eq70, hf⟩ := Option.bind_eq_some_iff.mp hf
  have eq71 : pb_R h9 v0 5 = some q70 := pb_Rx eh9 eq70
  have eq72 : pb_R h26 v0 5 = some q70 := pb_Rx eh26 eq71
  have eq73 : pb_R h51 v0 5 = some q70 := pb_Rx eh51 eq72
  obtain ⟨hg74, hf⟩ := pb_gd hf
  have hg75 : pb_is h9 q66 12 := pb_isx eh9 hg74
  have hg76 : pb_is h26 q66 12 := pb_isx eh26 hg75
  have hg77 : pb_is h51 q66 12 := pb_isx eh51 hg76
  obtain ⟨hg78, hf⟩ := pb_gd hf
  have hg79 : pb_is h9 q70 12 := pb_isx eh9 hg78
  have hg80 : pb_is h26 q70 12 := pb_isx eh26 hg79
  have hg81 : pb_is h51 q70 12 := pb_isx eh51 hg80
  obtain ⟨hg82, hf⟩ := pb_gd hf
  obtain ⟨hg83, hf⟩ := pb_gd hf
  refine And.intro hg52 (Exists.intro q66 (And.intro eq69 (And.intro hg53 (Exists.intro q70 (And.intro eq73 (And.intro (Or.inl rfl) (And.intro hg77 (And.intro hg81 (And.intro (by decide) (And.intro (by decide) (And.intro (by decide) (And.intro hg82 (And.intro hg83 (And.intro (Nat.le_of_ble_eq_true rfl) (?_)))))))))))))))
  refine pb_hset (E := pb_pW h51 q70 (va_cpy (pb_I h51 q66) (pb_I h51 q70) ((0 : Int32)).toNatClampNeg ((0 : Int32)).toNatClampNeg ((6 : Int32)).toNatClampNeg)) rfl (fun h84 eh84 => ?_)
  have hf := pb_hbd hf eh84
  have hg85 : pb_is h84 v1 0 := pb_isx eh84 hg52
  have hg86 : pb_is h84 v0 0 := pb_isx eh84 hg53
  have hg87 : pb_is h84 q3 12 := pb_isx eh84 hg54
  have hg88 : pb_is h84 q4 12 := pb_isx eh84 hg55
  have hg89 : pb_is h84 q16 12 := pb_isx eh84 hg56
  have hg90 : pb_is h84 q18 12 := pb_isx eh84 hg57
  have hg91 : pb_is h84 q37 12 := pb_isx eh84 hg58
  have hg92 : pb_is h84 q40 12 := pb_isx eh84 hg59
  have hg93 : pb_is h84 q66 12 := pb_isx eh84 hg77
  have hg94 : pb_is h84 q70 12 := pb_isx eh84 hg81
  have eq95 : pb_R h84 v1 2 = some q3 := pb_Rx eh84 eq60
  have eq96 : pb_R h84 v0 2 = some q4 := pb_Rx eh84 eq61
  have eq97 : pb_R h84 v1 3 = some q16 := pb_Rx eh84 eq62
  have eq98 : pb_R h84 v0 3 = some q18 := pb_Rx eh84 eq63
  have eq99 : pb_R h84 v1 4 = some q37 := pb_Rx eh84 eq64
  have eq100 : pb_R h84 v0 4 = some q40 := pb_Rx eh84 eq65
  have eq101 : pb_R h84 v1 5 = some q66 := pb_Rx eh84 eq69
  have eq102 : pb_R h84 v0 5 = some q70 := pb_Rx eh84 eq73
  obtain ⟨q103, eq103, hf⟩ := Option.bind_eq_some_iff.mp hf
  have eq104 : pb_R h9 v1 6 = some q103 := pb_Rx eh9 eq103
  have eq105 : pb_R h26 v1 6 = some q103 := pb_Rx eh26 eq104
  have eq106 : pb_R h51 v1 6 = some q103 := pb_Rx eh51 eq105
  have eq107 : pb_R h84 v1 6 = some q103 := pb_Rx eh84 eq106
  obtain ⟨q108, eq108, hf⟩ := Option.bind_eq_some_iff.mp hf
  have eq109 : pb_R h9 v0 6 = some q108 := pb_Rx eh9 eq108
  have eq110 : pb_R h26 v0 6 = some q108 := pb_Rx eh26 eq109
  have eq111 : pb_R h51 v0 6 = some q108 := pb_Rx eh51 eq110
  have eq112 : pb_R h84 v0 6 = some q108 := pb_Rx eh84 eq111
  obtain ⟨hg113, hf⟩ := pb_gd hf
  have hg114 : pb_is h9 q103 12 := pb_isx eh9 hg113
  have hg115 : pb_is h26 q103 12 := pb_isx eh26 hg114
  have hg116 : pb_is h51 q103 12 := pb_isx eh51 hg115
  have hg117 : pb_is h84 q103 12 := pb_isx eh84 hg116
  obtain ⟨hg118, hf⟩ := pb_gd hf
  have hg119 : pb_is h9 q108 12 := pb_isx eh9 hg118
  have hg120 : pb_is h26 q108 12 := pb_isx eh26 hg119
  have hg121 : pb_is h51 q108 12 := pb_isx eh51 hg120
  have hg122 : pb_is h84 q108 12 := pb_isx eh84 hg121
  obtain ⟨hg123, hf⟩ := pb_gd hf
  obtain ⟨hg124, hf⟩ := pb_gd hf
  refine And.intro hg85 (Exists.intro q103 (And.intro eq107 (And.intro hg86 (Exists.intro q108 (And.intro eq112 (And.intro (Or.inl rfl) (And.intro hg117 (And.intro hg122 (And.intro (by decide) (And.intro (by decide) (And.intro (by decide) (And.intro hg123 (And.intro hg124 (And.intro (Nat.le_of_ble_eq_true rfl) (?_)))))))))))))))
  refine pb_hset (E := pb_pW h84 q108 (va_cpy (pb_I h84 q103) (pb_I h84 q108) ((0 : Int32)).toNatClampNeg ((0 : Int32)).toNatClampNeg ((6 : Int32)).toNatClampNeg)) rfl (fun h125 eh125 => ?_)
  have hf := pb_hbd hf eh125
  have hg126 : pb_is h125 v1 0 := pb_isx eh125 hg85
  have hg127 : pb_is h125 v0 0 := pb_isx eh125 hg86
  have hg128 : pb_is h125 q3 12 := pb_isx eh125 hg87
  have hg129 : pb_is h125 q4 12 := pb_isx eh125 hg88
  have hg130 : pb_is h125 q16 12 := pb_isx eh125 hg89
  have hg131 : pb_is h125 q18 12 := pb_isx eh125 hg90
  have hg132 : pb_is h125 q37 12 := pb_isx eh125 hg91
  have hg133 : pb_is h125 q40 12 := pb_isx eh125 hg92
  have hg134 : pb_is h125 q66 12 := pb_isx eh125 hg93
  have hg135 : pb_is h125 q70 12 := pb_isx eh125 hg94
  have hg136 : pb_is h125 q103 12 := pb_isx eh125 hg117
  have hg137 : pb_is h125 q108 12 := pb_isx eh125 hg122
  have eq138 : pb_R h125 v1 2 = some q3 := pb_Rx eh125 eq95
  have eq139 : pb_R h125 v0 2 = some q4 := pb_Rx eh125 eq96
  have eq140 : pb_R h125 v1 3 = some q16 := pb_Rx eh125 eq97
  have eq141 : pb_R h125 v0 3 = some q18 := pb_Rx eh125 eq98
  have eq142 : pb_R h125 v1 4 = some q37 := pb_Rx eh125 eq99
  have eq143 : pb_R h125 v0 4 = some q40 := pb_Rx eh125 eq100
  have eq144 : pb_R h125 v1 5 = some q66 := pb_Rx eh125 eq101
  have eq145 : pb_R h125 v0 5 = some q70 := pb_Rx eh125 eq102
  have eq146 : pb_R h125 v1 6 = some q103 := pb_Rx eh125 eq107
  have eq147 : pb_R h125 v0 6 = some q108 := pb_Rx eh125 eq112
  obtain ⟨q148, eq148, hf⟩ := Option.bind_eq_some_iff.mp hf
  have eq149 : pb_R h9 v1 7 = some q148 := pb_Rx eh9 eq148
  have eq150 : pb_R h26 v1 7 = some q148 := pb_Rx eh26 eq149
  have eq151 : pb_R h51 v1 7 = some q148 := pb_Rx eh51 eq150
  have eq152 : pb_R h84 v1 7 = some q148 := pb_Rx eh84 eq151
  have eq153 : pb_R h125 v1 7 = some q148 := pb_Rx eh125 eq152
  obtain ⟨q154, eq154, hf⟩ := Option.bind_eq_some_iff.mp hf
  have eq155 : pb_R h9 v0 7 = some q154 := pb_Rx eh9 eq154
  have eq156 : pb_R h26 v0 7 = some q154 := pb_Rx eh26 eq155
  have eq157 : pb_R h51 v0 7 = some q154 := pb_Rx eh51 eq156
  have eq158 : pb_R h84 v0 7 = some q154 := pb_Rx eh84 eq157
  have eq159 : pb_R h125 v0 7 = some q154 := pb_Rx eh125 eq158
  obtain ⟨hg160, hf⟩ := pb_gd hf
  have hg161 : pb_is h9 q148 12 := pb_isx eh9 hg160
  have hg162 : pb_is h26 q148 12 := pb_isx eh26 hg161
  have hg163 : pb_is h51 q148 12 := pb_isx eh51 hg162
  have hg164 : pb_is h84 q148 12 := pb_isx eh84 hg163
  have hg165 : pb_is h125 q148 12 := pb_isx eh125 hg164
  obtain ⟨hg166, hf⟩ := pb_gd hf
  have hg167 : pb_is h9 q154 12 := pb_isx eh9 hg166
  have hg168 : pb_is h26 q154 12 := pb_isx eh26 hg167
  have hg169 : pb_is h51 q154 12 := pb_isx eh51 hg168
  have hg170 : pb_is h84 q154 12 := pb_isx eh84 hg169
  have hg171 : pb_is h125 q154 12 := pb_isx eh125 hg170
  obtain ⟨hg172, hf⟩ := pb_gd hf
  obtain ⟨hg173, hf⟩ := pb_gd hf
  refine And.intro hg126 (Exists.intro q148 (And.intro eq153 (And.intro hg127 (Exists.intro q154 (And.intro eq159 (And.intro (Or.inl rfl) (And.intro hg165 (And.intro hg171 (And.intro (by decide) (And.intro (by decide) (And.intro (by decide) (And.intro hg172 (And.intro hg173 (And.intro (Nat.le_of_ble_eq_true rfl) (?_)))))))))))))))
  refine pb_hset (E := pb_pW h125 q154 (va_cpy (pb_I h125 q148) (pb_I h125 q154) ((0 : Int32)).toNatClampNeg ((0 : Int32)).toNatClampNeg ((36 : Int32)).toNatClampNeg)) rfl (fun h174 eh174 => ?_)
  have hf := pb_hbd hf eh174
  have hg175 : pb_is h174 v1 0 := pb_isx eh174 hg126
  have hg176 : pb_is h174 v0 0 := pb_isx eh174 hg127
  have hg177 : pb_is h174 q3 12 := pb_isx eh174 hg128
  have hg178 : pb_is h174 q4 12 := pb_isx eh174 hg129
  have hg179 : pb_is h174 q16 12 := pb_isx eh174 hg130
  have hg180 : pb_is h174 q18 12 := pb_isx eh174 hg131
  have hg181 : pb_is h174 q37 12 := pb_isx eh174 hg132
  have hg182 : pb_is h174 q40 12 := pb_isx eh174 hg133
  have hg183 : pb_is h174 q66 12 := pb_isx eh174 hg134
  have hg184 : pb_is h174 q70 12 := pb_isx eh174 hg135
  have hg185 : pb_is h174 q103 12 := pb_isx eh174 hg136
  have hg186 : pb_is h174 q108 12 := pb_isx eh174 hg137
  have hg187 : pb_is h174 q148 12 := pb_isx eh174 hg165
  have hg188 : pb_is h174 q154 12 := pb_isx eh174 hg171
  have eq189 : pb_R h174 v1 2 = some q3 := pb_Rx eh174 eq138
  have eq190 : pb_R h174 v0 2 = some q4 := pb_Rx eh174 eq139
  have eq191 : pb_R h174 v1 3 = some q16 := pb_Rx eh174 eq140
  have eq192 : pb_R h174 v0 3 = some q18 := pb_Rx eh174 eq141
  have eq193 : pb_R h174 v1 4 = some q37 := pb_Rx eh174 eq142
  have eq194 : pb_R h174 v0 4 = some q40 := pb_Rx eh174 eq143
  have eq195 : pb_R h174 v1 5 = some q66 := pb_Rx eh174 eq144
  have eq196 : pb_R h174 v0 5 = some q70 := pb_Rx eh174 eq145
  have eq197 : pb_R h174 v1 6 = some q103 := pb_Rx eh174 eq146
  have eq198 : pb_R h174 v0 6 = some q108 := pb_Rx eh174 eq147
  have eq199 : pb_R h174 v1 7 = some q148 := pb_Rx eh174 eq153
  have eq200 : pb_R h174 v0 7 = some q154 := pb_Rx eh174 eq159
  cases hf
  exact And.intro rfl rfl
/-- County.hasMan -/
def f_3 (h : pb_HP) (v0 : Nat) (v1 : Int32) : Option (Int32) :=
  if v1 < 0 then (some 0) else (if pb_is h v0 0 then (if (pb_I h v0 0) ≤ v1 then (some 0) else (some 1)) else none)
set_option maxRecDepth 4000 in
theorem l_3 {xs : List Int32} {d : Nat} {h : pb_HP} {v0 : Nat} {v1 : Int32} {r : Int32} (hf : f_3 h v0 v1 = some r) : pb_AR xs (d + 1) 3 h [.ref v0, .int v1] (some (.int r)) h := by
  intro G hG
  have hc_ : pb_CODE 3 = kc_3 := rfl
  rw [hc_] at hG
  unfold f_3 at hf
  refine hG.1 0 0 kb_3_0 _ _ _ rfl ?_
  refine And.intro (fun (hc3 : v1 < 0) => ?_) (fun (hc3 : ¬ (v1 < 0)) => ?_)
  · rw [if_pos hc3] at hf
    refine hG.1 1 16 kb_3_16 _ _ _ rfl ?_
    refine hG.1 2 17 kb_3_17 _ _ _ rfl ?_
    cases hf
    exact And.intro (fun _ => Or.inl rfl) (And.intro rfl rfl)
  · rw [if_neg hc3] at hf
    obtain ⟨hg1, hf⟩ := pb_gd hf
    refine And.intro hg1 (?_)
    refine And.intro (fun (hc2 : (pb_I h v0 0) ≤ v1) => ?_) (fun (hc2 : ¬ ((pb_I h v0 0) ≤ v1)) => ?_)
    · rw [if_pos hc2] at hf
      refine hG.1 1 16 kb_3_16 _ _ _ rfl ?_
      refine hG.1 2 17 kb_3_17 _ _ _ rfl ?_
      cases hf
      exact And.intro (fun _ => Or.inl rfl) (And.intro rfl rfl)
    · rw [if_neg hc2] at hf
      refine hG.1 2 17 kb_3_17 _ _ _ rfl ?_
      cases hf
      exact And.intro (fun _ => Or.inr rfl) (And.intro rfl rfl)
/-- County.hasChild -/
def f_4 (h : pb_HP) (v0 : Nat) (v1 : Int32) : Option (Int32) :=
  if v1 < 0 then (some 0) else (if pb_is h v0 0 then (if (pb_I h v0 1) ≤ v1 then (some 0) else (some 1)) else none)
set_option maxRecDepth 4000 in
theorem l_4 {xs : List Int32} {d : Nat} {h : pb_HP} {v0 : Nat} {v1 : Int32} {r : Int32} (hf : f_4 h v0 v1 = some r) : pb_AR xs (d + 1) 4 h [.ref v0, .int v1] (some (.int r)) h := by
  intro G hG
  have hc_ : pb_CODE 4 = kc_4 := rfl
  rw [hc_] at hG
  unfold f_4 at hf
  refine hG.1 0 0 kb_4_0 _ _ _ rfl ?_
  refine And.intro (fun (hc3 : v1 < 0) => ?_) (fun (hc3 : ¬ (v1 < 0)) => ?_)
  · rw [if_pos hc3] at hf
    refine hG.1 1 16 kb_4_16 _ _ _ rfl ?_
    refine hG.1 2 17 kb_4_17 _ _ _ rfl ?_
    cases hf
    exact And.intro (fun _ => Or.inl rfl) (And.intro rfl rfl)
  · rw [if_neg hc3] at hf
    obtain ⟨hg1, hf⟩ := pb_gd hf
    refine And.intro hg1 (?_)
    refine And.intro (fun (hc2 : (pb_I h v0 1) ≤ v1) => ?_) (fun (hc2 : ¬ ((pb_I h v0 1) ≤ v1)) => ?_)
    · rw [if_pos hc2] at hf
      refine hG.1 1 16 kb_4_16 _ _ _ rfl ?_
      refine hG.1 2 17 kb_4_17 _ _ _ rfl ?_
      cases hf
      exact And.intro (fun _ => Or.inl rfl) (And.intro rfl rfl)
    · rw [if_neg hc2] at hf
      refine hG.1 2 17 kb_4_17 _ _ _ rfl ?_
      cases hf
      exact And.intro (fun _ => Or.inr rfl) (And.intro rfl rfl)
def f_8_4s (N : Nat) (h : pb_HP) (v0 : Nat) (s : Int32 × Int32) : Option ((Int32 × Int32) ⊕ (Int32)) :=
  if pb_is h v0 0 then (if (pb_I h v0 1) ≤ s.2 then (some (.inr s.1)) else ((pb_R h v0 5).bind fun q2 => (if pb_ar h q2 12 s.2 then (if (pb_I h q2 s.2.toNatClampNeg) ≤ 0 then (some (.inl ((s.1, s.2 + 1)))) else (some (.inl ((s.1 + 1, s.2 + 1))))) else none))) else none
/-- County.fathersIn -/
def f_8 (N : Nat) (h : pb_HP) (v0 : Nat) : Option (Int32) :=
  (pb_wl (f_8_4s N h v0) N ((0, 0))).bind fun e6 => (some e6)
set_option maxRecDepth 4000 in
theorem l_8 {xs : List Int32} {d : Nat} {N : Nat} {h : pb_HP} {v0 : Nat} {r : Int32} (hf : f_8 N h v0 = some r) : pb_AR xs (d + 1) 8 h [.ref v0] (some (.int r)) h := by
  intro G hG
  have hc_ : pb_CODE 8 = kc_8 := rfl
  rw [hc_] at hG
  have hl_4 : ∀ (v0 : Nat) (n_ : Nat) (s : Int32 × Int32) (e : Int32), pb_wl (f_8_4s N h v0) n_ s = some e → G 30 [(1, .int e)] [] h → G 4 [(0, .ref v0), (1, .int s.1), (2, .int s.2)] [] h := by
    intro v0
    refine pb_wl_ind (I := fun (s : Int32 × Int32) => G 4 [(0, .ref v0), (1, .int s.1), (2, .int s.2)] [] h) (K := fun (e : Int32) => G 30 [(1, .int e)] [] h) (fun s x hf hk => ?_)
    unfold f_8_4s at hf
    refine hG.1 1 4 kb_8_4 _ _ _ rfl ?_
    obtain ⟨hg1, hf⟩ := pb_gd hf
    refine And.intro hg1 (?_)
    refine And.intro (fun (hc5 : (pb_I h v0 1) ≤ s.2) => ?_) (fun (hc5 : ¬ ((pb_I h v0 1) ≤ s.2)) => ?_)
    · rw [if_pos hc5] at hf
      cases hf
      exact hG.2 30 _ [1] _ _ _ rfl hk
    · rw [if_neg hc5] at hf
      obtain ⟨q2, eq2, hf⟩ := Option.bind_eq_some_iff.mp hf
      obtain ⟨hg3, hf⟩ := pb_gd hf
      refine And.intro hg1 (Exists.intro q2 (And.intro eq2 (And.intro hg3 (?_))))
      refine And.intro (fun (hc4 : (pb_I h q2 s.2.toNatClampNeg) ≤ 0) => ?_) (fun (hc4 : ¬ ((pb_I h q2 s.2.toNatClampNeg) ≤ 0)) => ?_)
      · rw [if_pos hc4] at hf
        refine hG.1 2 24 kb_8_24 _ _ _ rfl ?_
        cases hf
        exact hk
      · rw [if_neg hc4] at hf
        refine hG.1 2 24 kb_8_24 _ _ _ rfl ?_
        cases hf
        exact hk
  unfold f_8 at hf
  refine hG.1 0 0 kb_8_0 _ _ _ rfl ?_
  obtain ⟨e6, he_e6, hf⟩ := Option.bind_eq_some_iff.mp hf
  refine hl_4 _ _ _ _ he_e6 ?_
  refine hG.1 3 30 kb_8_30 _ _ _ rfl ?_
  cases hf
  exact And.intro (fun z_ => absurd z_ (by decide)) (And.intro rfl rfl)
def f_9_23s (N : Nat) (h : pb_HP) (v0 : Nat) (v1 : Int32) (v2 : Int32) (s : Int32 × Int32) : Option ((Int32 × Int32) ⊕ (Int32)) :=
  if 6 ≤ s.2 then (some (.inr s.1)) else (if pb_is h v0 0 then ((pb_R h v0 3).bind fun q7 => (if pb_ar h q7 12 v2 then (if (((pb_I h q7 v2.toNatClampNeg) >>> (s.2 &&& 31)) &&& 1) = 0 then (some (.inl ((s.1, s.2 + 1)))) else ((pb_R h v0 7).bind fun q9 => (if pb_ar h q9 12 ((v1 * 6) + s.2) then (some (.inl ((s.1 + (pb_I h q9 ((v1 * 6) + s.2).toNatClampNeg), s.2 + 1)))) else none))) else none)) else none)
/-- County.regard -/
def f_9 (N : Nat) (h : pb_HP) (v0 : Nat) (v1 : Int32) (v2 : Int32) : Option (Int32) :=
  if pb_is h v0 0 then ((pb_R h v0 6).bind fun q2 => (if pb_ar h q2 12 v1 then ((pb_R h v0 3).bind fun q4 => (if pb_ar h q4 12 v2 then (if ((pb_I h q2 v1.toNatClampNeg) &&& (pb_I h q4 v2.toNatClampNeg)) = 0 then ((pb_wl (f_9_23s N h v0 v1 v2) N ((0, 0))).bind fun e13 => (some e13)) else (some ((-1)))) else none)) else none)) else none
set_option maxRecDepth 4000 in
theorem l_9 {xs : List Int32} {d : Nat} {N : Nat} {h : pb_HP} {v0 : Nat} {v1 : Int32} {v2 : Int32} {r : Int32} (hf : f_9 N h v0 v1 v2 = some r) : pb_AR xs (d + 1) 9 h [.ref v0, .int v1, .int v2] (some (.int r)) h := by
  intro G hG
  have hc_ : pb_CODE 9 = kc_9 := rfl
  rw [hc_] at hG
  have hl_23 : ∀ (v0 : Nat) (v1 : Int32) (v2 : Int32) (n_ : Nat) (s : Int32 × Int32) (e : Int32), pb_wl (f_9_23s N h v0 v1 v2) n_ s = some e → G 65 [(3, .int e)] [] h → G 23 [(0, .ref v0), (1, .int v1), (2, .int v2), (3, .int s.1), (4, .int s.2)] [] h := by
    intro v0 v1 v2
    refine pb_wl_ind (I := fun (s : Int32 × Int32) => G 23 [(0, .ref v0), (1, .int v1), (2, .int v2), (3, .int s.1), (4, .int s.2)] [] h) (K := fun (e : Int32) => G 65 [(3, .int e)] [] h) (fun s x hf hk => ?_)
    unfold f_9_23s at hf
    refine hG.1 2 23 kb_9_23 _ _ _ rfl ?_
    refine And.intro (fun (hc12 : 6 ≤ s.2) => ?_) (fun (hc12 : ¬ (6 ≤ s.2)) => ?_)
    · rw [if_pos hc12] at hf
      cases hf
      exact hG.2 65 _ [3] _ _ _ rfl hk
    · rw [if_neg hc12] at hf
      obtain ⟨hg6, hf⟩ := pb_gd hf
      obtain ⟨q7, eq7, hf⟩ := Option.bind_eq_some_iff.mp hf
      obtain ⟨hg8, hf⟩ := pb_gd hf
      refine And.intro hg6 (Exists.intro q7 (And.intro eq7 (And.intro hg8 (?_))))
      refine And.intro (fun (hc11 : (((pb_I h q7 v2.toNatClampNeg) >>> (s.2 &&& 31)) &&& 1) = 0) => ?_) (fun (hc11 : ¬ ((((pb_I h q7 v2.toNatClampNeg) >>> (s.2 &&& 31)) &&& 1) = 0)) => ?_)
      · rw [if_pos hc11] at hf
        refine hG.1 3 59 kb_9_59 _ _ _ rfl ?_
        cases hf
        exact hk
      · rw [if_neg hc11] at hf
        obtain ⟨q9, eq9, hf⟩ := Option.bind_eq_some_iff.mp hf
        obtain ⟨hg10, hf⟩ := pb_gd hf
        refine And.intro hg6 (Exists.intro q9 (And.intro eq9 (And.intro hg10 (?_))))
        refine hG.1 3 59 kb_9_59 _ _ _ rfl ?_
        cases hf
        exact hk
  unfold f_9 at hf
  refine hG.1 0 0 kb_9_0 _ _ _ rfl ?_
  obtain ⟨hg1, hf⟩ := pb_gd hf
  obtain ⟨q2, eq2, hf⟩ := Option.bind_eq_some_iff.mp hf
  obtain ⟨hg3, hf⟩ := pb_gd hf
  obtain ⟨q4, eq4, hf⟩ := Option.bind_eq_some_iff.mp hf
  obtain ⟨hg5, hf⟩ := pb_gd hf
  refine And.intro hg1 (Exists.intro q2 (And.intro eq2 (And.intro hg3 (And.intro hg1 (Exists.intro q4 (And.intro eq4 (And.intro hg5 (?_))))))))
  refine And.intro (fun (hc14 : ((pb_I h q2 v1.toNatClampNeg) &&& (pb_I h q4 v2.toNatClampNeg)) = 0) => ?_) (fun (hc14 : ¬ (((pb_I h q2 v1.toNatClampNeg) &&& (pb_I h q4 v2.toNatClampNeg)) = 0)) => ?_)
  · rw [if_pos hc14] at hf
    refine hG.1 1 18 kb_9_18 _ _ _ rfl ?_
    obtain ⟨e13, he_e13, hf⟩ := Option.bind_eq_some_iff.mp hf
    refine hl_23 _ _ _ _ _ _ he_e13 ?_
    refine hG.1 4 65 kb_9_65 _ _ _ rfl ?_
    cases hf
    exact And.intro (fun z_ => absurd z_ (by decide)) (And.intro rfl rfl)
  · rw [if_neg hc14] at hf
    cases hf
    exact And.intro (fun z_ => absurd z_ (by decide)) (And.intro rfl rfl)
def f_10_4s (N : Nat) (h : pb_HP) (v0 : Nat) (v1 : Int32) (s : Int32 × Int32) : Option ((Int32 × Int32) ⊕ (Int32)) :=
  if pb_is h v0 0 then (if (pb_I h v0 1) ≤ s.2 then (some (.inr s.1)) else ((pb_R h v0 7).bind fun q2 => (if pb_ar h q2 12 ((s.2 * 6) + v1) then (some (.inl ((s.1 + (pb_I h q2 ((s.2 * 6) + v1).toNatClampNeg), s.2 + 1)))) else none))) else none
/-- County.sweetness -/
def f_10 (N : Nat) (h : pb_HP) (v0 : Nat) (v1 : Int32) : Option (Int32) :=
  (pb_wl (f_10_4s N h v0 v1) N ((0, 0))).bind fun e5 => (some e5)
set_option maxRecDepth 4000 in
theorem l_10 {xs : List Int32} {d : Nat} {N : Nat} {h : pb_HP} {v0 : Nat} {v1 : Int32} {r : Int32} (hf : f_10 N h v0 v1 = some r) : pb_AR xs (d + 1) 10 h [.ref v0, .int v1] (some (.int r)) h := by
  intro G hG
  have hc_ : pb_CODE 10 = kc_10 := rfl
  rw [hc_] at hG
  have hl_4 : ∀ (v0 : Nat) (v1 : Int32) (n_ : Nat) (s : Int32 × Int32) (e : Int32), pb_wl (f_10_4s N h v0 v1) n_ s = some e → G 32 [(2, .int e)] [] h → G 4 [(0, .ref v0), (1, .int v1), (2, .int s.1), (3, .int s.2)] [] h := by
    intro v0 v1
    refine pb_wl_ind (I := fun (s : Int32 × Int32) => G 4 [(0, .ref v0), (1, .int v1), (2, .int s.1), (3, .int s.2)] [] h) (K := fun (e : Int32) => G 32 [(2, .int e)] [] h) (fun s x hf hk => ?_)
    unfold f_10_4s at hf
    refine hG.1 1 4 kb_10_4 _ _ _ rfl ?_
    obtain ⟨hg1, hf⟩ := pb_gd hf
    refine And.intro hg1 (?_)
    refine And.intro (fun (hc4 : (pb_I h v0 1) ≤ s.2) => ?_) (fun (hc4 : ¬ ((pb_I h v0 1) ≤ s.2)) => ?_)
    · rw [if_pos hc4] at hf
      cases hf
      exact hG.2 32 _ [2] _ _ _ rfl hk
    · rw [if_neg hc4] at hf
      obtain ⟨q2, eq2, hf⟩ := Option.bind_eq_some_iff.mp hf
      obtain ⟨hg3, hf⟩ := pb_gd hf
      refine And.intro hg1 (Exists.intro q2 (And.intro eq2 (And.intro hg3 (?_))))
      cases hf
      exact hk
  unfold f_10 at hf
  refine hG.1 0 0 kb_10_0 _ _ _ rfl ?_
  obtain ⟨e5, he_e5, hf⟩ := Option.bind_eq_some_iff.mp hf
  refine hl_4 _ _ _ _ _ he_e5 ?_
  refine hG.1 2 32 kb_10_32 _ _ _ rfl ?_
  cases hf
  exact And.intro (fun z_ => absurd z_ (by decide)) (And.intro rfl rfl)
/-- County.wouldFree -/
def f_12 (h : pb_HP) (v0 : Nat) (v1 : Int32) (v2 : Int32) : Option (Int32) :=
  if pb_is h v0 0 then ((pb_R h v0 5).bind fun q2 => (if pb_ar h q2 12 v2 then (if (pb_I h q2 v2.toNatClampNeg) ≤ 0 then (some 0) else ((pb_R h v0 2).bind fun q4 => (if pb_ar h q4 12 v1 then (if (10 * (pb_I h q4 v1.toNatClampNeg)) < (pb_I h q2 v2.toNatClampNeg) then (some 0) else (some 1)) else none))) else none)) else none
set_option maxRecDepth 4000 in
theorem l_12 {xs : List Int32} {d : Nat} {h : pb_HP} {v0 : Nat} {v1 : Int32} {v2 : Int32} {r : Int32} (hf : f_12 h v0 v1 v2 = some r) : pb_AR xs (d + 1) 12 h [.ref v0, .int v1, .int v2] (some (.int r)) h := by
  intro G hG
  have hc_ : pb_CODE 12 = kc_12 := rfl
  rw [hc_] at hG
  unfold f_12 at hf
  refine hG.1 0 0 kb_12_0 _ _ _ rfl ?_
  obtain ⟨hg1, hf⟩ := pb_gd hf
  obtain ⟨q2, eq2, hf⟩ := Option.bind_eq_some_iff.mp hf
  obtain ⟨hg3, hf⟩ := pb_gd hf
  refine And.intro hg1 (Exists.intro q2 (And.intro eq2 (And.intro hg3 (?_))))
  refine And.intro (fun (hc7 : (pb_I h q2 v2.toNatClampNeg) ≤ 0) => ?_) (fun (hc7 : ¬ ((pb_I h q2 v2.toNatClampNeg) ≤ 0)) => ?_)
  · rw [if_pos hc7] at hf
    refine hG.1 1 31 kb_12_31 _ _ _ rfl ?_
    refine hG.1 2 32 kb_12_32 _ _ _ rfl ?_
    cases hf
    exact And.intro (fun _ => Or.inl rfl) (And.intro rfl rfl)
  · rw [if_neg hc7] at hf
    obtain ⟨q4, eq4, hf⟩ := Option.bind_eq_some_iff.mp hf
    obtain ⟨hg5, hf⟩ := pb_gd hf
    refine And.intro hg1 (Exists.intro q4 (And.intro eq4 (And.intro hg5 (And.intro hg1 (Exists.intro q2 (And.intro eq2 (And.intro hg3 (?_))))))))
    refine And.intro (fun (hc6 : (10 * (pb_I h q4 v1.toNatClampNeg)) < (pb_I h q2 v2.toNatClampNeg)) => ?_) (fun (hc6 : ¬ ((10 * (pb_I h q4 v1.toNatClampNeg)) < (pb_I h q2 v2.toNatClampNeg))) => ?_)
    · rw [if_pos hc6] at hf
      refine hG.1 1 31 kb_12_31 _ _ _ rfl ?_
      refine hG.1 2 32 kb_12_32 _ _ _ rfl ?_
      cases hf
      exact And.intro (fun _ => Or.inl rfl) (And.intro rfl rfl)
    · rw [if_neg hc6] at hf
      refine hG.1 2 32 kb_12_32 _ _ _ rfl ?_
      cases hf
      exact And.intro (fun _ => Or.inr rfl) (And.intro rfl rfl)
def f_15_19s (N : Nat) (h : pb_HP) (v0 : Nat) (v1 : Int32) (v2 : Int32) (v3 : Int32) (s : Int32 × Int32) : Option ((Int32 × Int32) ⊕ (Int32)) :=
  if pb_is h v0 0 then (if (pb_I h v0 0) ≤ s.2 then (some (.inr s.1)) else ((pb_R h v0 3).bind fun q2 => (if pb_ar h q2 12 s.2 then (some (.inl ((s.1 + (((pb_I h q2 s.2.toNatClampNeg) >>> (v3 &&& 31)) &&& 1), s.2 + 1)))) else none))) else none
def f_15_7s (N : Nat) (h : pb_HP) (v0 : Nat) (s : Int32 × Int32 × Int32) : Option ((Int32 × Int32 × Int32) ⊕ (Int32)) :=
  if 6 ≤ s.2.2 then (some (.inr s.2.1)) else ((pb_wl (f_15_19s N h v0 s.1 s.2.1 s.2.2) N ((0, 0))).bind fun e5 => (if s.1 ≤ e5 then (some (.inl ((s.1, s.2.1, s.2.2 + 1)))) else (some (.inl ((e5, s.2.2, s.2.2 + 1))))))
/-- County.rarest -/
def f_15 (N : Nat) (h : pb_HP) (v0 : Nat) : Option (Int32) :=
  (pb_wl (f_15_7s N h v0) N ((7, 0, 0))).bind fun e8 => (some e8)
set_option maxRecDepth 4000 in
theorem l_15 {xs : List Int32} {d : Nat} {N : Nat} {h : pb_HP} {v0 : Nat} {r : Int32} (hf : f_15 N h v0 = some r) : pb_AR xs (d + 1) 15 h [.ref v0] (some (.int r)) h := by
  intro G hG
  have hc_ : pb_CODE 15 = kc_15 := rfl
  rw [hc_] at hG
  have hl_19 : ∀ (v0 : Nat) (v1 : Int32) (v2 : Int32) (v3 : Int32) (n_ : Nat) (s : Int32 × Int32) (e : Int32), pb_wl (f_15_19s N h v0 v1 v2 v3) n_ s = some e → G 50 [(0, .ref v0), (1, .int v1), (2, .int v2), (3, .int v3), (4, .int e)] [] h → G 19 [(0, .ref v0), (1, .int v1), (2, .int v2), (3, .int v3), (4, .int s.1), (5, .int s.2)] [] h := by
    intro v0 v1 v2 v3
    refine pb_wl_ind (I := fun (s : Int32 × Int32) => G 19 [(0, .ref v0), (1, .int v1), (2, .int v2), (3, .int v3), (4, .int s.1), (5, .int s.2)] [] h) (K := fun (e : Int32) => G 50 [(0, .ref v0), (1, .int v1), (2, .int v2), (3, .int v3), (4, .int e)] [] h) (fun s x hf hk => ?_)
    unfold f_15_19s at hf
    refine hG.1 2 19 kb_15_19 _ _ _ rfl ?_
    obtain ⟨hg1, hf⟩ := pb_gd hf
    refine And.intro hg1 (?_)
    refine And.intro (fun (hc4 : (pb_I h v0 0) ≤ s.2) => ?_) (fun (hc4 : ¬ ((pb_I h v0 0) ≤ s.2)) => ?_)
    · rw [if_pos hc4] at hf
      cases hf
      exact hG.2 50 _ [0, 1, 2, 3, 4] _ _ _ rfl hk
    · rw [if_neg hc4] at hf
      obtain ⟨q2, eq2, hf⟩ := Option.bind_eq_some_iff.mp hf
      obtain ⟨hg3, hf⟩ := pb_gd hf
      refine And.intro hg1 (Exists.intro q2 (And.intro eq2 (And.intro hg3 (?_))))
      cases hf
      exact hk
  have hl_7 : ∀ (v0 : Nat) (n_ : Nat) (s : Int32 × Int32 × Int32) (e : Int32), pb_wl (f_15_7s N h v0) n_ s = some e → G 67 [(2, .int e)] [] h → G 7 [(0, .ref v0), (1, .int s.1), (2, .int s.2.1), (3, .int s.2.2)] [] h := by
    intro v0
    refine pb_wl_ind (I := fun (s : Int32 × Int32 × Int32) => G 7 [(0, .ref v0), (1, .int s.1), (2, .int s.2.1), (3, .int s.2.2)] [] h) (K := fun (e : Int32) => G 67 [(2, .int e)] [] h) (fun s x hf hk => ?_)
    unfold f_15_7s at hf
    refine hG.1 1 7 kb_15_7 _ _ _ rfl ?_
    refine And.intro (fun (hc7 : 6 ≤ s.2.2) => ?_) (fun (hc7 : ¬ (6 ≤ s.2.2)) => ?_)
    · rw [if_pos hc7] at hf
      cases hf
      exact hG.2 67 _ [2] _ _ _ rfl hk
    · rw [if_neg hc7] at hf
      obtain ⟨e5, he_e5, hf⟩ := Option.bind_eq_some_iff.mp hf
      refine hl_19 _ _ _ _ _ _ _ he_e5 ?_
      refine hG.1 3 50 kb_15_50 _ _ _ rfl ?_
      refine And.intro (fun (hc6 : s.1 ≤ e5) => ?_) (fun (hc6 : ¬ (s.1 ≤ e5)) => ?_)
      · rw [if_pos hc6] at hf
        refine hG.1 4 61 kb_15_61 _ _ _ rfl ?_
        cases hf
        exact hG.2 7 _ [0, 1, 2, 3] _ _ _ rfl hk
      · rw [if_neg hc6] at hf
        refine hG.1 4 61 kb_15_61 _ _ _ rfl ?_
        cases hf
        exact hG.2 7 _ [0, 1, 2, 3] _ _ _ rfl hk
  unfold f_15 at hf
  refine hG.1 0 0 kb_15_0 _ _ _ rfl ?_
  obtain ⟨e8, he_e8, hf⟩ := Option.bind_eq_some_iff.mp hf
  refine hl_7 _ _ _ _ he_e8 ?_
  refine hG.1 5 67 kb_15_67 _ _ _ rfl ?_
  cases hf
  exact And.intro (fun z_ => absurd z_ (by decide)) (And.intro rfl rfl)
def f_16_16s (N : Nat) (h : pb_HP) (v0 : Nat) (v2 : Int32) (s : Int32 × Int32) : Option ((Int32 × Int32) ⊕ (Int32)) :=
  if pb_is h v0 0 then (if (pb_I h v0 0) ≤ s.2 then (some (.inr s.1)) else ((pb_R h v0 3).bind fun q3 => (if pb_ar h q3 12 v2 then (if pb_ar h q3 12 s.2 then (if ¬ (pb_I h q3 v2.toNatClampNeg) = (pb_I h q3 s.2.toNatClampNeg) then (some (.inl ((s.1, s.2 + 1)))) else (some (.inl ((s.1 + 1, s.2 + 1))))) else none) else none))) else none
def f_16_4s (N : Nat) (h : pb_HP) (v0 : Nat) (s : Int32 × Int32) : Option ((Int32 × Int32) ⊕ (Int32)) :=
  if pb_is h v0 0 then (if (pb_I h v0 0) ≤ s.2 then (some (.inr s.1)) else ((pb_wl (f_16_16s N h v0 s.2) N ((s.1, s.2 + 1))).bind fun e8 => (some (.inl ((e8, s.2 + 1)))))) else none
/-- County.twins -/
def f_16 (N : Nat) (h : pb_HP) (v0 : Nat) : Option (Int32) :=
  (pb_wl (f_16_4s N h v0) N ((0, 0))).bind fun e10 => (some e10)
set_option maxRecDepth 4000 in
theorem l_16 {xs : List Int32} {d : Nat} {N : Nat} {h : pb_HP} {v0 : Nat} {r : Int32} (hf : f_16 N h v0 = some r) : pb_AR xs (d + 1) 16 h [.ref v0] (some (.int r)) h := by
  intro G hG
  have hc_ : pb_CODE 16 = kc_16 := rfl
  rw [hc_] at hG
  have hl_16 : ∀ (v0 : Nat) (v2 : Int32) (n_ : Nat) (s : Int32 × Int32) (e : Int32), pb_wl (f_16_16s N h v0 v2) n_ s = some e → G 48 [(0, .ref v0), (1, .int e), (2, .int v2)] [] h → G 16 [(0, .ref v0), (1, .int s.1), (2, .int v2), (3, .int s.2)] [] h := by
    intro v0 v2
    refine pb_wl_ind (I := fun (s : Int32 × Int32) => G 16 [(0, .ref v0), (1, .int s.1), (2, .int v2), (3, .int s.2)] [] h) (K := fun (e : Int32) => G 48 [(0, .ref v0), (1, .int e), (2, .int v2)] [] h) (fun s x hf hk => ?_)
    unfold f_16_16s at hf
    refine hG.1 2 16 kb_16_16 _ _ _ rfl ?_
    obtain ⟨hg2, hf⟩ := pb_gd hf
    refine And.intro hg2 (?_)
    refine And.intro (fun (hc7 : (pb_I h v0 0) ≤ s.2) => ?_) (fun (hc7 : ¬ ((pb_I h v0 0) ≤ s.2)) => ?_)
    · rw [if_pos hc7] at hf
      cases hf
      exact hG.2 48 _ [0, 1, 2] _ _ _ rfl hk
    · rw [if_neg hc7] at hf
      obtain ⟨q3, eq3, hf⟩ := Option.bind_eq_some_iff.mp hf
      obtain ⟨hg4, hf⟩ := pb_gd hf
      obtain ⟨hg5, hf⟩ := pb_gd hf
      refine And.intro hg2 (Exists.intro q3 (And.intro eq3 (And.intro hg4 (And.intro hg2 (Exists.intro q3 (And.intro eq3 (And.intro hg5 (?_))))))))
      refine And.intro (fun (hc6 : ¬ (pb_I h q3 v2.toNatClampNeg) = (pb_I h q3 s.2.toNatClampNeg)) => ?_) (fun (hc6 : ¬ (¬ (pb_I h q3 v2.toNatClampNeg) = (pb_I h q3 s.2.toNatClampNeg))) => ?_)
      · rw [if_pos hc6] at hf
        refine hG.1 3 42 kb_16_42 _ _ _ rfl ?_
        cases hf
        exact hk
      · rw [if_neg hc6] at hf
        refine hG.1 3 42 kb_16_42 _ _ _ rfl ?_
        cases hf
        exact hk
  have hl_4 : ∀ (v0 : Nat) (n_ : Nat) (s : Int32 × Int32) (e : Int32), pb_wl (f_16_4s N h v0) n_ s = some e → G 54 [(1, .int e)] [] h → G 4 [(0, .ref v0), (1, .int s.1), (2, .int s.2)] [] h := by
    intro v0
    refine pb_wl_ind (I := fun (s : Int32 × Int32) => G 4 [(0, .ref v0), (1, .int s.1), (2, .int s.2)] [] h) (K := fun (e : Int32) => G 54 [(1, .int e)] [] h) (fun s x hf hk => ?_)
    unfold f_16_4s at hf
    refine hG.1 1 4 kb_16_4 _ _ _ rfl ?_
    obtain ⟨hg1, hf⟩ := pb_gd hf
    refine And.intro hg1 (?_)
    refine And.intro (fun (hc9 : (pb_I h v0 0) ≤ s.2) => ?_) (fun (hc9 : ¬ ((pb_I h v0 0) ≤ s.2)) => ?_)
    · rw [if_pos hc9] at hf
      cases hf
      exact hG.2 54 _ [1] _ _ _ rfl hk
    · rw [if_neg hc9] at hf
      obtain ⟨e8, he_e8, hf⟩ := Option.bind_eq_some_iff.mp hf
      refine hl_16 _ _ _ _ _ he_e8 ?_
      refine hG.1 4 48 kb_16_48 _ _ _ rfl ?_
      cases hf
      exact hk
  unfold f_16 at hf
  refine hG.1 0 0 kb_16_0 _ _ _ rfl ?_
  obtain ⟨e10, he_e10, hf⟩ := Option.bind_eq_some_iff.mp hf
  refine hl_4 _ _ _ _ he_e10 ?_
  refine hG.1 5 54 kb_16_54 _ _ _ rfl ?_
  cases hf
  exact And.intro (fun z_ => absurd z_ (by decide)) (And.intro rfl rfl)
def f_18_4s (N : Nat) (h : pb_HP) (v0 : Nat) (v1 : Int32) (s : Int32 × Int32) : Option ((Int32 × Int32) ⊕ (Int32)) :=
  if pb_is h v0 0 then (if (pb_I h v0 0) ≤ s.2 then (some (.inr s.1)) else (if ((v1 >>> (s.2 &&& 31)) &&& 1) = 0 then (some (.inl ((s.1, s.2 + 1)))) else ((pb_R h v0 3).bind fun q2 => (if pb_ar h q2 12 s.2 then (some (.inl ((s.1 ||| (pb_I h q2 s.2.toNatClampNeg), s.2 + 1)))) else none)))) else none
/-- County.traitsOf -/
def f_18 (N : Nat) (h : pb_HP) (v0 : Nat) (v1 : Int32) : Option (Int32) :=
  (pb_wl (f_18_4s N h v0 v1) N ((0, 0))).bind fun e6 => (some e6)
set_option maxRecDepth 4000 in
theorem l_18 {xs : List Int32} {d : Nat} {N : Nat} {h : pb_HP} {v0 : Nat} {v1 : Int32} {r : Int32} (hf : f_18 N h v0 v1 = some r) : pb_AR xs (d + 1) 18 h [.ref v0, .int v1] (some (.int r)) h := by
  intro G hG
  have hc_ : pb_CODE 18 = kc_18 := rfl
  rw [hc_] at hG
  have hl_4 : ∀ (v0 : Nat) (v1 : Int32) (n_ : Nat) (s : Int32 × Int32) (e : Int32), pb_wl (f_18_4s N h v0 v1) n_ s = some e → G 35 [(2, .int e)] [] h → G 4 [(0, .ref v0), (1, .int v1), (2, .int s.1), (3, .int s.2)] [] h := by
    intro v0 v1
    refine pb_wl_ind (I := fun (s : Int32 × Int32) => G 4 [(0, .ref v0), (1, .int v1), (2, .int s.1), (3, .int s.2)] [] h) (K := fun (e : Int32) => G 35 [(2, .int e)] [] h) (fun s x hf hk => ?_)
    unfold f_18_4s at hf
    refine hG.1 1 4 kb_18_4 _ _ _ rfl ?_
    obtain ⟨hg1, hf⟩ := pb_gd hf
    refine And.intro hg1 (?_)
    refine And.intro (fun (hc5 : (pb_I h v0 0) ≤ s.2) => ?_) (fun (hc5 : ¬ ((pb_I h v0 0) ≤ s.2)) => ?_)
    · rw [if_pos hc5] at hf
      cases hf
      exact hG.2 35 _ [2] _ _ _ rfl hk
    · rw [if_neg hc5] at hf
      refine And.intro (fun (hc4 : ((v1 >>> (s.2 &&& 31)) &&& 1) = 0) => ?_) (fun (hc4 : ¬ (((v1 >>> (s.2 &&& 31)) &&& 1) = 0)) => ?_)
      · rw [if_pos hc4] at hf
        refine hG.1 2 29 kb_18_29 _ _ _ rfl ?_
        cases hf
        exact hk
      · rw [if_neg hc4] at hf
        obtain ⟨q2, eq2, hf⟩ := Option.bind_eq_some_iff.mp hf
        obtain ⟨hg3, hf⟩ := pb_gd hf
        refine And.intro hg1 (Exists.intro q2 (And.intro eq2 (And.intro hg3 (?_))))
        refine hG.1 2 29 kb_18_29 _ _ _ rfl ?_
        cases hf
        exact hk
  unfold f_18 at hf
  refine hG.1 0 0 kb_18_0 _ _ _ rfl ?_
  obtain ⟨e6, he_e6, hf⟩ := Option.bind_eq_some_iff.mp hf
  refine hl_4 _ _ _ _ _ he_e6 ?_
  refine hG.1 3 35 kb_18_35 _ _ _ rfl ?_
  cases hf
  exact And.intro (fun z_ => absurd z_ (by decide)) (And.intro rfl rfl)
def f_19_4s (N : Nat) (h : pb_HP) (v0 : Nat) (s : Int32 × Int32) : Option ((Int32 × Int32) ⊕ (Int32)) :=
  if pb_is h v0 0 then (if (pb_I h v0 1) ≤ s.2 then (some (.inr s.1)) else ((pb_R h v0 5).bind fun q2 => (if pb_ar h q2 12 s.2 then (some (.inl ((if s.1 < pb_I h q2 s.2.toNatClampNeg then pb_I h q2 s.2.toNatClampNeg else s.1, s.2 + 1)))) else none))) else none
/-- County.longest -/
def f_19 (N : Nat) (h : pb_HP) (v0 : Nat) : Option (Int32) :=
  (pb_wl (f_19_4s N h v0) N ((0, 0))).bind fun e5 => (some e5)
set_option maxRecDepth 4000 in
theorem l_19 {xs : List Int32} {d : Nat} {N : Nat} {h : pb_HP} {v0 : Nat} {r : Int32} (hf : f_19 N h v0 = some r) : pb_AR xs (d + 1) 19 h [.ref v0] (some (.int r)) h := by
  intro G hG
  have hc_ : pb_CODE 19 = kc_19 := rfl
  rw [hc_] at hG
  have hl_4 : ∀ (v0 : Nat) (n_ : Nat) (s : Int32 × Int32) (e : Int32), pb_wl (f_19_4s N h v0) n_ s = some e → G 29 [(1, .int e)] [] h → G 4 [(0, .ref v0), (1, .int s.1), (2, .int s.2)] [] h := by
    intro v0
    refine pb_wl_ind (I := fun (s : Int32 × Int32) => G 4 [(0, .ref v0), (1, .int s.1), (2, .int s.2)] [] h) (K := fun (e : Int32) => G 29 [(1, .int e)] [] h) (fun s x hf hk => ?_)
    unfold f_19_4s at hf
    refine hG.1 1 4 kb_19_4 _ _ _ rfl ?_
    obtain ⟨hg1, hf⟩ := pb_gd hf
    refine And.intro hg1 (?_)
    refine And.intro (fun (hc4 : (pb_I h v0 1) ≤ s.2) => ?_) (fun (hc4 : ¬ ((pb_I h v0 1) ≤ s.2)) => ?_)
    · rw [if_pos hc4] at hf
      cases hf
      exact hG.2 29 _ [1] _ _ _ rfl hk
    · rw [if_neg hc4] at hf
      obtain ⟨q2, eq2, hf⟩ := Option.bind_eq_some_iff.mp hf
      obtain ⟨hg3, hf⟩ := pb_gd hf
      refine And.intro hg1 (Exists.intro q2 (And.intro eq2 (And.intro hg3 (And.intro (Nat.le_of_ble_eq_true rfl) (?_)))))
      cases hf
      exact hk
  unfold f_19 at hf
  refine hG.1 0 0 kb_19_0 _ _ _ rfl ?_
  obtain ⟨e5, he_e5, hf⟩ := Option.bind_eq_some_iff.mp hf
  refine hl_4 _ _ _ _ he_e5 ?_
  refine hG.1 2 29 kb_19_29 _ _ _ rfl ?_
  cases hf
  exact And.intro (fun z_ => absurd z_ (by decide)) (And.intro rfl rfl)
def f_21_15s (N : Nat) (h : pb_HP) (v0 : Nat) (v1 : Int32) (v2 : Int32) (s : Int32 × Int32) : Option ((Int32 × Int32) ⊕ (Int32)) :=
  if pb_is h v0 0 then (if (pb_I h v0 0) ≤ s.2 then (some (.inr s.1)) else ((pb_R h v0 2).bind fun q3 => (if pb_ar h q3 12 s.2 then (if pb_ar h q3 12 v2 then (if (pb_I h q3 v2.toNatClampNeg) < (pb_I h q3 s.2.toNatClampNeg) then (some (.inl ((s.1 + 1, s.2 + 1)))) else (if ¬ (pb_I h q3 s.2.toNatClampNeg) = (pb_I h q3 v2.toNatClampNeg) then (some (.inl ((s.1, s.2 + 1)))) else (if v2 ≤ s.2 then (some (.inl ((s.1, s.2 + 1)))) else (some (.inl ((s.1 + 1, s.2 + 1))))))) else none) else none))) else none
def f_21_2s (N : Nat) (h : pb_HP) (v0 : Nat) (v1 : Int32) (s : Int32) : Option ((Int32) ⊕ ((Int32) ⊕ (Unit))) :=
  if pb_is h v0 0 then (if (pb_I h v0 0) ≤ s then (some (.inr (.inr (())))) else ((pb_wl (f_21_15s N h v0 v1 s) N ((0, 0))).bind fun e10 => (if ¬ e10 = v1 then (some (.inl (s + 1))) else (some (.inr (.inl s)))))) else none
/-- County.byKindness -/
def f_21 (N : Nat) (h : pb_HP) (v0 : Nat) (v1 : Int32) : Option (Int32) :=
  (pb_wl (f_21_2s N h v0 v1) N 0).bind fun e13 => (match e13 with | .inl q15 => some q15 | .inr x14 => some ((-1)))
set_option maxRecDepth 4000 in
theorem l_21 {xs : List Int32} {d : Nat} {N : Nat} {h : pb_HP} {v0 : Nat} {v1 : Int32} {r : Int32} (hf : f_21 N h v0 v1 = some r) : pb_AR xs (d + 1) 21 h [.ref v0, .int v1] (some (.int r)) h := by
  intro G hG
  have hc_ : pb_CODE 21 = kc_21 := rfl
  rw [hc_] at hG
  have hl_15 : ∀ (v0 : Nat) (v1 : Int32) (v2 : Int32) (n_ : Nat) (s : Int32 × Int32) (e : Int32), pb_wl (f_21_15s N h v0 v1 v2) n_ s = some e → G 71 [(0, .ref v0), (1, .int v1), (2, .int v2), (3, .int e)] [] h → G 15 [(0, .ref v0), (1, .int v1), (2, .int v2), (3, .int s.1), (4, .int s.2)] [] h := by
    intro v0 v1 v2
    refine pb_wl_ind (I := fun (s : Int32 × Int32) => G 15 [(0, .ref v0), (1, .int v1), (2, .int v2), (3, .int s.1), (4, .int s.2)] [] h) (K := fun (e : Int32) => G 71 [(0, .ref v0), (1, .int v1), (2, .int v2), (3, .int e)] [] h) (fun s x hf hk => ?_)
    unfold f_21_15s at hf
    refine hG.1 2 15 kb_21_15 _ _ _ rfl ?_
    obtain ⟨hg2, hf⟩ := pb_gd hf
    refine And.intro hg2 (?_)
    refine And.intro (fun (hc9 : (pb_I h v0 0) ≤ s.2) => ?_) (fun (hc9 : ¬ ((pb_I h v0 0) ≤ s.2)) => ?_)
    · rw [if_pos hc9] at hf
      cases hf
      exact hG.2 71 _ [0, 1, 2, 3] _ _ _ rfl hk
    · rw [if_neg hc9] at hf
      obtain ⟨q3, eq3, hf⟩ := Option.bind_eq_some_iff.mp hf
      obtain ⟨hg4, hf⟩ := pb_gd hf
      obtain ⟨hg5, hf⟩ := pb_gd hf
      refine And.intro hg2 (Exists.intro q3 (And.intro eq3 (And.intro hg4 (And.intro hg2 (Exists.intro q3 (And.intro eq3 (And.intro hg5 (?_))))))))
      refine And.intro (fun (hc8 : (pb_I h q3 v2.toNatClampNeg) < (pb_I h q3 s.2.toNatClampNeg)) => ?_) (fun (hc8 : ¬ ((pb_I h q3 v2.toNatClampNeg) < (pb_I h q3 s.2.toNatClampNeg))) => ?_)
      · rw [if_pos hc8] at hf
        refine hG.1 3 62 kb_21_62 _ _ _ rfl ?_
        refine hG.1 4 65 kb_21_65 _ _ _ rfl ?_
        cases hf
        exact hk
      · rw [if_neg hc8] at hf
        refine And.intro hg2 (Exists.intro q3 (And.intro eq3 (And.intro hg4 (And.intro hg2 (Exists.intro q3 (And.intro eq3 (And.intro hg5 (?_))))))))
        refine And.intro (fun (hc7 : ¬ (pb_I h q3 s.2.toNatClampNeg) = (pb_I h q3 v2.toNatClampNeg)) => ?_) (fun (hc7 : ¬ (¬ (pb_I h q3 s.2.toNatClampNeg) = (pb_I h q3 v2.toNatClampNeg))) => ?_)
        · rw [if_pos hc7] at hf
          refine hG.1 4 65 kb_21_65 _ _ _ rfl ?_
          cases hf
          exact hk
        · rw [if_neg hc7] at hf
          refine And.intro (fun (hc6 : v2 ≤ s.2) => ?_) (fun (hc6 : ¬ (v2 ≤ s.2)) => ?_)
          · rw [if_pos hc6] at hf
            refine hG.1 4 65 kb_21_65 _ _ _ rfl ?_
            cases hf
            exact hk
          · rw [if_neg hc6] at hf
            refine hG.1 3 62 kb_21_62 _ _ _ rfl ?_
            refine hG.1 4 65 kb_21_65 _ _ _ rfl ?_
            cases hf
            exact hk
  have hl_2 : ∀ (v0 : Nat) (v1 : Int32) (n_ : Nat) (s : Int32) (e : (Int32) ⊕ (Unit)), pb_wl (f_21_2s N h v0 v1) n_ s = some e → pb_kk (fun (q_ : Int32) => q_ = r) (fun (x_ : Unit) => G 84 [] [] h) e → G 2 [(0, .ref v0), (1, .int v1), (2, .int s)] [] h := by
    intro v0 v1
    refine pb_wl_ind (I := fun (s : Int32) => G 2 [(0, .ref v0), (1, .int v1), (2, .int s)] [] h) (K := fun (e : (Int32) ⊕ (Unit)) => pb_kk (fun (q_ : Int32) => q_ = r) (fun (x_ : Unit) => G 84 [] [] h) e) (fun s x hf hk => ?_)
    unfold f_21_2s at hf
    refine hG.1 1 2 kb_21_2 _ _ _ rfl ?_
    obtain ⟨hg1, hf⟩ := pb_gd hf
    refine And.intro hg1 (?_)
    refine And.intro (fun (hc12 : (pb_I h v0 0) ≤ s) => ?_) (fun (hc12 : ¬ ((pb_I h v0 0) ≤ s)) => ?_)
    · rw [if_pos hc12] at hf
      cases hf
      exact hG.2 84 _ [] _ _ _ rfl hk
    · rw [if_neg hc12] at hf
      obtain ⟨e10, he_e10, hf⟩ := Option.bind_eq_some_iff.mp hf
      refine hl_15 _ _ _ _ _ _ he_e10 ?_
      refine hG.1 5 71 kb_21_71 _ _ _ rfl ?_
      refine And.intro (fun (hc11 : ¬ e10 = v1) => ?_) (fun (hc11 : ¬ (¬ e10 = v1)) => ?_)
      · rw [if_pos hc11] at hf
        refine hG.1 6 78 kb_21_78 _ _ _ rfl ?_
        cases hf
        exact hG.2 2 _ [0, 1, 2] _ _ _ rfl hk
      · rw [if_neg hc11] at hf
        cases hf
        cases hk
        exact And.intro (fun z_ => absurd z_ (by decide)) (And.intro rfl rfl)
  unfold f_21 at hf
  refine hG.1 0 0 kb_21_0 _ _ _ rfl ?_
  obtain ⟨e13, he_e13, hf⟩ := Option.bind_eq_some_iff.mp hf
  refine hl_2 _ _ _ _ _ he_e13 ?_
  cases e13 with
  | inl q15 =>
    exact Option.some.inj hf
  | inr x14 =>
    try dsimp only at hf
    refine hG.1 7 84 kb_21_84 _ _ _ rfl ?_
    cases hf
    exact And.intro (fun z_ => absurd z_ (by decide)) (And.intro rfl rfl)
def f_22_5s (N : Nat) (h : pb_HP) (v0 : Nat) (v1 : Int32) (v2 : Int32) (s : Int32 × Int32) : Option ((Int32 × Int32) ⊕ (Int32)) :=
  if 6 ≤ s.2 then (some (.inr s.1)) else (if pb_is h v0 0 then ((pb_R h v0 7).bind fun q2 => (if pb_ar h q2 12 ((v1 * 6) + s.2) then (if pb_ar h q2 12 ((v2 * 6) + s.2) then (some (.inl ((s.1 + (if 0 ≤ (pb_I h q2 ((v1 * 6) + s.2).toNatClampNeg) - (pb_I h q2 ((v2 * 6) + s.2).toNatClampNeg) then (pb_I h q2 ((v1 * 6) + s.2).toNatClampNeg) - (pb_I h q2 ((v2 * 6) + s.2).toNatClampNeg) else 0 - ((pb_I h q2 ((v1 * 6) + s.2).toNatClampNeg) - (pb_I h q2 ((v2 * 6) + s.2).toNatClampNeg))), s.2 + 1)))) else none) else none)) else none)
/-- County.distance -/
def f_22 (N : Nat) (h : pb_HP) (v0 : Nat) (v1 : Int32) (v2 : Int32) : Option (Int32) :=
  (pb_wl (f_22_5s N h v0 v1 v2) N ((0, 0))).bind fun e6 => (some e6)
set_option maxRecDepth 4000 in
theorem l_22 {xs : List Int32} {d : Nat} {N : Nat} {h : pb_HP} {v0 : Nat} {v1 : Int32} {v2 : Int32} {r : Int32} (hf : f_22 N h v0 v1 v2 = some r) : pb_AR xs (d + 1) 22 h [.ref v0, .int v1, .int v2] (some (.int r)) h := by
  intro G hG
  have hc_ : pb_CODE 22 = kc_22 := rfl
  rw [hc_] at hG
  have hl_5 : ∀ (v0 : Nat) (v1 : Int32) (v2 : Int32) (n_ : Nat) (s : Int32 × Int32) (e : Int32), pb_wl (f_22_5s N h v0 v1 v2) n_ s = some e → G 49 [(3, .int e)] [] h → G 5 [(0, .ref v0), (1, .int v1), (2, .int v2), (3, .int s.1), (4, .int s.2)] [] h := by
    intro v0 v1 v2
    refine pb_wl_ind (I := fun (s : Int32 × Int32) => G 5 [(0, .ref v0), (1, .int v1), (2, .int v2), (3, .int s.1), (4, .int s.2)] [] h) (K := fun (e : Int32) => G 49 [(3, .int e)] [] h) (fun s x hf hk => ?_)
    unfold f_22_5s at hf
    refine hG.1 1 5 kb_22_5 _ _ _ rfl ?_
    refine And.intro (fun (hc5 : 6 ≤ s.2) => ?_) (fun (hc5 : ¬ (6 ≤ s.2)) => ?_)
    · rw [if_pos hc5] at hf
      cases hf
      exact hG.2 49 _ [3] _ _ _ rfl hk
    · rw [if_neg hc5] at hf
      obtain ⟨hg1, hf⟩ := pb_gd hf
      obtain ⟨q2, eq2, hf⟩ := Option.bind_eq_some_iff.mp hf
      obtain ⟨hg3, hf⟩ := pb_gd hf
      obtain ⟨hg4, hf⟩ := pb_gd hf
      refine And.intro hg1 (Exists.intro q2 (And.intro eq2 (And.intro hg3 (And.intro hg1 (Exists.intro q2 (And.intro eq2 (And.intro hg4 (And.intro (Nat.le_of_ble_eq_true rfl) (?_)))))))))
      cases hf
      exact hk
  unfold f_22 at hf
  refine hG.1 0 0 kb_22_0 _ _ _ rfl ?_
  obtain ⟨e6, he_e6, hf⟩ := Option.bind_eq_some_iff.mp hf
  refine hl_5 _ _ _ _ _ _ he_e6 ?_
  refine hG.1 2 49 kb_22_49 _ _ _ rfl ?_
  cases hf
  exact And.intro (fun z_ => absurd z_ (by decide)) (And.intro rfl rfl)
def f_36_23s (N : Nat) (v0 : Nat) (s : Int32 × pb_HP) : Option ((Int32 × pb_HP) ⊕ (pb_HP)) :=
  if pb_is s.2 v0 1 then ((pb_R s.2 v0 0).bind fun q3 => (if pb_is s.2 q3 0 then (if (pb_I s.2 q3 1) ≤ s.1 then (some (.inr s.2)) else ((pb_R s.2 q3 4).bind fun q5 => (if pb_ar s.2 q5 12 s.1 then ((pb_R s.2 q3 5).bind fun q7 => (if pb_ar s.2 q7 12 s.1 then (pb_hb (pb_pI (pb_pI s.2 q5 s.1.toNatClampNeg (if (pb_I s.2 q5 s.1.toNatClampNeg) + 1 < 99 then (pb_I s.2 q5 s.1.toNatClampNeg) + 1 else 99)) q7 s.1.toNatClampNeg (if 0 < (pb_I (pb_pI s.2 q5 s.1.toNatClampNeg (if (pb_I s.2 q5 s.1.toNatClampNeg) + 1 < 99 then (pb_I s.2 q5 s.1.toNatClampNeg) + 1 else 99)) q7 s.1.toNatClampNeg) - 1 then (pb_I (pb_pI s.2 q5 s.1.toNatClampNeg (if (pb_I s.2 q5 s.1.toNatClampNeg) + 1 < 99 then (pb_I s.2 q5 s.1.toNatClampNeg) + 1 else 99)) q7 s.1.toNatClampNeg) - 1 else 0)) fun h9 => (some (.inl ((s.1 + 1, h9))))) else none)) else none))) else none)) else none
/-- Course.passYear -/
def f_36 (N : Nat) (h : pb_HP) (v0 : Nat) : Option (Int32 × pb_HP) :=
  if pb_is h v0 1 then (if (pb_I h v0 4) < 99 then ((pb_wl (f_36_23s N v0) N ((0, pb_pI h v0 4 ((pb_I h v0 4) + 1)))).bind fun e18 => (some ((1, e18)))) else (some ((0, h)))) else none
set_option maxRecDepth 4000 in
theorem l_36 {xs : List Int32} {d : Nat} {N : Nat} {h : pb_HP} {v0 : Nat} {r : Int32} {hE : pb_HP} (hf : f_36 N h v0 = some ((r, hE))) : pb_AR xs (d + 1) 36 h [.ref v0] (some (.int r)) hE := by
  intro G hG
  have hc_ : pb_CODE 36 = kc_36 := rfl
  rw [hc_] at hG
  have hl_23 : ∀ (v0 : Nat) (n_ : Nat) (s : Int32 × pb_HP) (e : pb_HP), pb_wl (f_36_23s N v0) n_ s = some e → G 89 [] [] e → G 23 [(0, .ref v0), (1, .int s.1)] [] s.2 := by
    intro v0
    refine pb_wl_ind (I := fun (s : Int32 × pb_HP) => G 23 [(0, .ref v0), (1, .int s.1)] [] s.2) (K := fun (e : pb_HP) => G 89 [] [] e) (fun s x hf hk => ?_)
    unfold f_36_23s at hf
    refine hG.1 2 23 kb_36_23 _ _ _ rfl ?_
    obtain ⟨hg2, hf⟩ := pb_gd hf
    obtain ⟨q3, eq3, hf⟩ := Option.bind_eq_some_iff.mp hf
    obtain ⟨hg4, hf⟩ := pb_gd hf
    refine And.intro hg2 (Exists.intro q3 (And.intro eq3 (And.intro hg4 (?_))))
    refine And.intro (fun (hc17 : (pb_I s.2 q3 1) ≤ s.1) => ?_) (fun (hc17 : ¬ ((pb_I s.2 q3 1) ≤ s.1)) => ?_)
    · rw [if_pos hc17] at hf
      cases hf
      exact hG.2 89 _ [] _ _ _ rfl hk
    · rw [if_neg hc17] at hf
      obtain ⟨q5, eq5, hf⟩ := Option.bind_eq_some_iff.mp hf
      obtain ⟨hg6, hf⟩ := pb_gd hf
      obtain ⟨q7, eq7, hf⟩ := Option.bind_eq_some_iff.mp hf
      obtain ⟨hg8, hf⟩ := pb_gd hf
      refine And.intro hg2 (Exists.intro q3 (And.intro eq3 (And.intro hg4 (Exists.intro q5 (And.intro eq5 (And.intro hg2 (Exists.intro q3 (And.intro eq3 (And.intro hg4 (Exists.intro q5 (And.intro eq5 (And.intro hg6 (And.intro (Nat.le_of_ble_eq_true rfl) (And.intro hg6 (And.intro hg2 (Exists.intro q3 (And.intro eq3 (And.intro hg4 (Exists.intro q7 (And.intro eq7 (And.intro hg2 (Exists.intro q3 (And.intro eq3 (And.intro hg4 (Exists.intro q7 (And.intro eq7 (And.intro hg8 (And.intro (Nat.le_of_ble_eq_true rfl) (And.intro hg8 (?_))))))))))))))))))))))))))))))
      refine pb_hset (E := pb_pI (pb_pI s.2 q5 s.1.toNatClampNeg (if (pb_I s.2 q5 s.1.toNatClampNeg) + 1 < 99 then (pb_I s.2 q5 s.1.toNatClampNeg) + 1 else 99)) q7 s.1.toNatClampNeg (if 0 < (pb_I (pb_pI s.2 q5 s.1.toNatClampNeg (if (pb_I s.2 q5 s.1.toNatClampNeg) + 1 < 99 then (pb_I s.2 q5 s.1.toNatClampNeg) + 1 else 99)) q7 s.1.toNatClampNeg) - 1 then (pb_I (pb_pI s.2 q5 s.1.toNatClampNeg (if (pb_I s.2 q5 s.1.toNatClampNeg) + 1 < 99 then (pb_I s.2 q5 s.1.toNatClampNeg) + 1 else 99)) q7 s.1.toNatClampNeg) - 1 else 0)) rfl (fun h9 eh9 => ?_)
      have hf := pb_hbd hf eh9
      have hg10 : pb_is h9 v0 1 := pb_isx eh9 hg2
      have hg11 : pb_is h9 q3 0 := pb_isx eh9 hg4
      have hg12 : pb_ar h9 q5 12 s.1 := pb_arx eh9 hg6
      have hg13 : pb_ar h9 q7 12 s.1 := pb_arx eh9 hg8
      have eq14 : pb_R h9 v0 0 = some q3 := pb_Rx eh9 eq3
      have eq15 : pb_R h9 q3 4 = some q5 := pb_Rx eh9 eq5
      have eq16 : pb_R h9 q3 5 = some q7 := pb_Rx eh9 eq7
      cases hf
      exact hk
  unfold f_36 at hf
  refine hG.1 0 0 kb_36_0 _ _ _ rfl ?_
  obtain ⟨hg1, hf⟩ := pb_gd hf
  refine And.intro hg1 (?_)
  refine And.intro (fun (hc19 : (pb_I h v0 4) < 99) => ?_) (fun (hc19 : ¬ ((pb_I h v0 4) < 99)) => ?_)
  · rw [if_pos hc19] at hf
    refine hG.1 1 11 kb_36_11 _ _ _ rfl ?_
    refine And.intro hg1 (And.intro hg1 (?_))
    obtain ⟨e18, he_e18, hf⟩ := Option.bind_eq_some_iff.mp hf
    refine hl_23 _ _ _ _ he_e18 ?_
    refine hG.1 3 89 kb_36_89 _ _ _ rfl ?_
    cases hf
    exact And.intro (fun _ => Or.inr rfl) (And.intro rfl rfl)
  · rw [if_neg hc19] at hf
    cases hf
    exact And.intro (fun _ => Or.inl rfl) (And.intro rfl rfl)
/-- Course.below -/
def f_40 (h : pb_HP) (v0 : Nat) (v1 : Int32) : Option (Int32 × pb_HP) :=
  if pb_is h v0 1 then (if v1 ≤ 0 then (some ((0, pb_pI h v0 8 (((pb_I h v0 8) * 1103515245) + 12345)))) else (if ¬ v1 = 0 then (some (((((pb_I (pb_pI h v0 8 (((pb_I h v0 8) * 1103515245) + 12345)) v0 8).toUInt32 >>> (Int32.toUInt32 16 &&& Int32.toUInt32 31)).toInt32) - (((pb_I (pb_pI h v0 8 (((pb_I h v0 8) * 1103515245) + 12345)) v0 8).toUInt32 >>> (Int32.toUInt32 16 &&& Int32.toUInt32 31)).toInt32) / v1 * v1, pb_pI h v0 8 (((pb_I h v0 8) * 1103515245) + 12345)))) else none)) else none
set_option maxRecDepth 4000 in
theorem l_40 {xs : List Int32} {d : Nat} {h : pb_HP} {v0 : Nat} {v1 : Int32} {r : Int32} {hE : pb_HP} (hf : f_40 h v0 v1 = some ((r, hE))) : pb_AR xs (d + 1) 40 h [.ref v0, .int v1] (some (.int r)) hE := by
  intro G hG
  have hc_ : pb_CODE 40 = kc_40 := rfl
  rw [hc_] at hG
  unfold f_40 at hf
  refine hG.1 0 0 kb_40_0 _ _ _ rfl ?_
  obtain ⟨hg1, hf⟩ := pb_gd hf
  refine And.intro hg1 (And.intro hg1 (?_))
  refine And.intro (fun (hc3 : v1 ≤ 0) => ?_) (fun (hc3 : ¬ (v1 ≤ 0)) => ?_)
  · rw [if_pos hc3] at hf
    refine hG.1 1 31 kb_40_31 _ _ _ rfl ?_
    refine hG.1 2 32 kb_40_32 _ _ _ rfl ?_
    cases hf
    exact And.intro (fun z_ => absurd z_ (by decide)) (And.intro rfl rfl)
  · rw [if_neg hc3] at hf
    obtain ⟨hg2, hf⟩ := pb_gd hf
    refine And.intro hg1 (And.intro hg2 (?_))
    refine hG.1 2 32 kb_40_32 _ _ _ rfl ?_
    cases hf
    exact And.intro (fun z_ => absurd z_ (by decide)) (And.intro rfl rfl)
def f_46_6s (N : Nat) (h : pb_HP) (v0 : Nat) (s : Int32 × Int32 × Int32) : Option ((Int32 × Int32 × Int32) ⊕ (Int32)) :=
  if 6 ≤ s.2.2 then (some (.inr s.2.1)) else (if pb_is h v0 1 then ((pb_R h v0 2).bind fun q2 => (if pb_ar h q2 12 s.2.2 then (if (pb_I h q2 s.2.2.toNatClampNeg) ≤ s.1 then (some (.inl ((s.1, s.2.1, s.2.2 + 1)))) else (some (.inl ((pb_I h q2 s.2.2.toNatClampNeg, s.2.2, s.2.2 + 1))))) else none)) else none)
/-- Course.mostTimes -/
def f_46 (N : Nat) (h : pb_HP) (v0 : Nat) : Option (Int32) :=
  (pb_wl (f_46_6s N h v0) N ((0, (-1), 0))).bind fun e6 => (some e6)
set_option maxRecDepth 4000 in
theorem l_46 {xs : List Int32} {d : Nat} {N : Nat} {h : pb_HP} {v0 : Nat} {r : Int32} (hf : f_46 N h v0 = some r) : pb_AR xs (d + 1) 46 h [.ref v0] (some (.int r)) h := by
  intro G hG
  have hc_ : pb_CODE 46 = kc_46 := rfl
  rw [hc_] at hG
  have hl_6 : ∀ (v0 : Nat) (n_ : Nat) (s : Int32 × Int32 × Int32) (e : Int32), pb_wl (f_46_6s N h v0) n_ s = some e → G 37 [(2, .int e)] [] h → G 6 [(0, .ref v0), (1, .int s.1), (2, .int s.2.1), (3, .int s.2.2)] [] h := by
    intro v0
    refine pb_wl_ind (I := fun (s : Int32 × Int32 × Int32) => G 6 [(0, .ref v0), (1, .int s.1), (2, .int s.2.1), (3, .int s.2.2)] [] h) (K := fun (e : Int32) => G 37 [(2, .int e)] [] h) (fun s x hf hk => ?_)
    unfold f_46_6s at hf
    refine hG.1 1 6 kb_46_6 _ _ _ rfl ?_
    refine And.intro (fun (hc5 : 6 ≤ s.2.2) => ?_) (fun (hc5 : ¬ (6 ≤ s.2.2)) => ?_)
    · rw [if_pos hc5] at hf
      cases hf
      exact hG.2 37 _ [2] _ _ _ rfl hk
    · rw [if_neg hc5] at hf
      obtain ⟨hg1, hf⟩ := pb_gd hf
      obtain ⟨q2, eq2, hf⟩ := Option.bind_eq_some_iff.mp hf
      obtain ⟨hg3, hf⟩ := pb_gd hf
      refine And.intro hg1 (Exists.intro q2 (And.intro eq2 (And.intro hg3 (?_))))
      refine And.intro (fun (hc4 : (pb_I h q2 s.2.2.toNatClampNeg) ≤ s.1) => ?_) (fun (hc4 : ¬ ((pb_I h q2 s.2.2.toNatClampNeg) ≤ s.1)) => ?_)
      · rw [if_pos hc4] at hf
        refine hG.1 2 31 kb_46_31 _ _ _ rfl ?_
        cases hf
        exact hk
      · rw [if_neg hc4] at hf
        refine And.intro hg1 (Exists.intro q2 (And.intro eq2 (And.intro hg3 (?_))))
        refine hG.1 2 31 kb_46_31 _ _ _ rfl ?_
        cases hf
        exact hk
  unfold f_46 at hf
  refine hG.1 0 0 kb_46_0 _ _ _ rfl ?_
  obtain ⟨e6, he_e6, hf⟩ := Option.bind_eq_some_iff.mp hf
  refine hl_6 _ _ _ _ he_e6 ?_
  refine hG.1 3 37 kb_46_37 _ _ _ rfl ?_
  cases hf
  exact And.intro (fun z_ => absurd z_ (by decide)) (And.intro rfl rfl)
/-- Duels.won -/
def f_52 (h : pb_HP) (v0 : Nat) (v1 : Int32) (v2 : Int32) : Option (Int32) :=
  if pb_is h v0 2 then ((pb_R h v0 2).bind fun q2 => (if pb_ar h q2 12 ((v1 * 6) + v2) then (some (pb_I h q2 ((v1 * 6) + v2).toNatClampNeg)) else none)) else none
set_option maxRecDepth 4000 in
theorem l_52 {xs : List Int32} {d : Nat} {h : pb_HP} {v0 : Nat} {v1 : Int32} {v2 : Int32} {r : Int32} (hf : f_52 h v0 v1 v2 = some r) : pb_AR xs (d + 1) 52 h [.ref v0, .int v1, .int v2] (some (.int r)) h := by
  intro G hG
  have hc_ : pb_CODE 52 = kc_52 := rfl
  rw [hc_] at hG
  unfold f_52 at hf
  refine hG.1 0 0 kb_52_0 _ _ _ rfl ?_
  obtain ⟨hg1, hf⟩ := pb_gd hf
  obtain ⟨q2, eq2, hf⟩ := Option.bind_eq_some_iff.mp hf
  obtain ⟨hg3, hf⟩ := pb_gd hf
  refine And.intro hg1 (Exists.intro q2 (And.intro eq2 (And.intro hg3 (?_))))
  cases hf
  exact And.intro (fun z_ => absurd z_ (by decide)) (And.intro rfl rfl)
/-- Duels.swap -/
def f_58 (h : pb_HP) (v0 : Nat) (v1 : Int32) (v2 : Int32) : Option (pb_HP) :=
  if pb_is h v0 2 then ((pb_R h v0 0).bind fun q2 => (if pb_ar h q2 12 v1 then (if pb_ar h q2 12 v2 then (some (pb_pI (pb_pI h q2 v1.toNatClampNeg (pb_I h q2 v2.toNatClampNeg)) q2 v2.toNatClampNeg (pb_I h q2 v1.toNatClampNeg))) else none) else none)) else none
set_option maxRecDepth 4000 in
theorem l_58 {xs : List Int32} {d : Nat} {h : pb_HP} {v0 : Nat} {v1 : Int32} {v2 : Int32} {hE : pb_HP} (hf : f_58 h v0 v1 v2 = some hE) : pb_AR xs (d + 1) 58 h [.ref v0, .int v1, .int v2] none hE := by
  intro G hG
  have hc_ : pb_CODE 58 = kc_58 := rfl
  rw [hc_] at hG
  unfold f_58 at hf
  refine hG.1 0 0 kb_58_0 _ _ _ rfl ?_
  obtain ⟨hg1, hf⟩ := pb_gd hf
  obtain ⟨q2, eq2, hf⟩ := Option.bind_eq_some_iff.mp hf
  obtain ⟨hg3, hf⟩ := pb_gd hf
  obtain ⟨hg4, hf⟩ := pb_gd hf
  refine And.intro hg1 (Exists.intro q2 (And.intro eq2 (And.intro hg3 (And.intro hg1 (Exists.intro q2 (And.intro eq2 (And.intro hg1 (Exists.intro q2 (And.intro eq2 (And.intro hg4 (And.intro hg3 (And.intro hg1 (Exists.intro q2 (And.intro eq2 (And.intro hg4 (?_))))))))))))))))
  cases hf
  exact And.intro rfl rfl
/-- Lines.isFull -/
def f_71 (h : pb_HP) (v0 : Nat) : Option (Int32) :=
  if pb_is h v0 4 then ((pb_R h v0 1).bind fun q2 => (if pb_is h q2 12 then (if (pb_I h v0 0) < (Int32.ofNat (pb_SH q2).2) then (some 0) else (some 1)) else none)) else none
set_option maxRecDepth 4000 in
theorem l_71 {xs : List Int32} {d : Nat} {h : pb_HP} {v0 : Nat} {r : Int32} (hf : f_71 h v0 = some r) : pb_AR xs (d + 1) 71 h [.ref v0] (some (.int r)) h := by
  intro G hG
  have hc_ : pb_CODE 71 = kc_71 := rfl
  rw [hc_] at hG
  unfold f_71 at hf
  refine hG.1 0 0 kb_71_0 _ _ _ rfl ?_
  obtain ⟨hg1, hf⟩ := pb_gd hf
  obtain ⟨q2, eq2, hf⟩ := Option.bind_eq_some_iff.mp hf
  obtain ⟨hg3, hf⟩ := pb_gd hf
  refine And.intro hg1 (And.intro hg1 (Exists.intro q2 (And.intro eq2 (And.intro (And.intro (by decide) (by decide)) (And.intro hg3 (?_))))))
  refine And.intro (fun (hc4 : (pb_I h v0 0) < (Int32.ofNat (pb_SH q2).2)) => ?_) (fun (hc4 : ¬ ((pb_I h v0 0) < (Int32.ofNat (pb_SH q2).2))) => ?_)
  · rw [if_pos hc4] at hf
    refine hG.1 1 16 kb_71_16 _ _ _ rfl ?_
    refine hG.1 2 17 kb_71_17 _ _ _ rfl ?_
    cases hf
    exact And.intro (fun _ => Or.inl rfl) (And.intro rfl rfl)
  · rw [if_neg hc4] at hf
    refine hG.1 2 17 kb_71_17 _ _ _ rfl ?_
    cases hf
    exact And.intro (fun _ => Or.inr rfl) (And.intro rfl rfl)
/-- Lines.take -/
def f_73 (h : pb_HP) (v0 : Nat) (v1 : Nat) : Option (pb_HP) :=
  if pb_is h v1 4 then (if pb_is h v0 4 then ((pb_R h v1 1).bind fun q3 => ((pb_R h v0 1).bind fun q4 => (if pb_is h q3 12 then (if pb_is h q4 12 then (if 0 ≤ (pb_I (pb_pI h v0 0 (pb_I h v1 0)) v0 0) then (if ((0 : Int32)).toNatClampNeg + (pb_I (pb_pI h v0 0 (pb_I h v1 0)) v0 0).toNatClampNeg ≤ (pb_SH q3).2 then (if ((0 : Int32)).toNatClampNeg + (pb_I (pb_pI h v0 0 (pb_I h v1 0)) v0 0).toNatClampNeg ≤ (pb_SH q4).2 then (pb_hb (pb_pW (pb_pI h v0 0 (pb_I h v1 0)) q4 (va_cpy (pb_I (pb_pI h v0 0 (pb_I h v1 0)) q3) (pb_I (pb_pI h v0 0 (pb_I h v1 0)) q4) ((0 : Int32)).toNatClampNeg ((0 : Int32)).toNatClampNeg (pb_I (pb_pI h v0 0 (pb_I h v1 0)) v0 0).toNatClampNeg)) fun h10 => ((pb_R h v1 2).bind fun q17 => ((pb_R h v0 2).bind fun q19 => (if pb_is h q17 12 then (if pb_is h q19 12 then (if 0 ≤ (pb_I h10 v0 0) then (if ((0 : Int32)).toNatClampNeg + (pb_I h10 v0 0).toNatClampNeg ≤ (pb_SH q17).2 then (if ((0 : Int32)).toNatClampNeg + (pb_I h10 v0 0).toNatClampNeg ≤ (pb_SH q19).2 then (pb_hb (pb_pW h10 q19 (va_cpy (pb_I h10 q17) (pb_I h10 q19) ((0 : Int32)).toNatClampNeg ((0 : Int32)).toNatClampNeg (pb_I h10 v0 0).toNatClampNeg)) fun h28 => ((pb_R h v1 3).bind fun q39 => ((pb_R h v0 3).bind fun q42 => (if pb_is h q39 12 then (if pb_is h q42 12 then (if 0 ≤ (pb_I h28 v0 0) then (if ((0 : Int32)).toNatClampNeg + (pb_I h28 v0 0).toNatClampNeg ≤ (pb_SH q39).2 then (if ((0 : Int32)).toNatClampNeg + (pb_I h28 v0 0).toNatClampNeg ≤ (pb_SH q42).2 then (pb_hb (pb_pW h28 q42 (va_cpy (pb_I h28 q39) (pb_I h28 q42) ((0 : Int32)).toNatClampNeg ((0 : Int32)).toNatClampNeg (pb_I h28 v0 0).toNatClampNeg)) fun h54 => ((pb_R h v1 4).bind fun q69 => ((pb_R h v0 4).bind fun q73 => (if pb_is h q69 12 then (if pb_is h q73 12 then (if 0 ≤ (pb_I h54 v0 0) then (if ((0 : Int32)).toNatClampNeg + (pb_I h54 v0 0).toNatClampNeg ≤ (pb_SH q69).2 then (if ((0 : Int32)).toNatClampNeg + (pb_I h54 v0 0).toNatClampNeg ≤ (pb_SH q73).2 then (pb_hb (pb_pW h54 q73 (va_cpy (pb_I h54 q69) (pb_I h54 q73) ((0 : Int32)).toNatClampNeg ((0 : Int32)).toNatClampNeg (pb_I h54 v0 0).toNatClampNeg)) fun h88 => (some h88)) else none) else none) else none) else none) else none)))) else none) else none) else none) else none) else none)))) else none) else none) else none) else none) else none)))) else none) else none) else none) else none) else none))) else none) else none
set_option maxRecDepth 4000 in
theorem l_73 {xs : List Int32} {d : Nat} {h : pb_HP} {v0 : Nat} {v1 : Nat} {hE : pb_HP} (hf : f_73 h v0 v1 = some hE) : pb_AR xs (d + 1) 73 h [.ref v0, .ref v1] none hE := by
  intro G hG
  have hc_ : pb_CODE 73 = kc_73 := rfl
  rw [hc_] at hG
  unfold f_73 at hf
  refine hG.1 0 0 kb_73_0 _ _ _ rfl ?_
  obtain ⟨hg1, hf⟩ := pb_gd hf
  obtain ⟨hg2, hf⟩ := pb_gd hf
  obtain ⟨q3, eq3, hf⟩ := Option.bind_eq_some_iff.mp hf
  obtain ⟨q4, eq4, hf⟩ := Option.bind_eq_some_iff.mp hf
  obtain ⟨hg5, hf⟩ := pb_gd hf
  obtain ⟨hg6, hf⟩ := pb_gd hf
  obtain ⟨hg7, hf⟩ := pb_gd hf
  obtain ⟨hg8, hf⟩ := pb_gd hf
  obtain ⟨hg9, hf⟩ := pb_gd hf
  refine And.intro hg1 (And.intro hg2 (And.intro hg1 (Exists.intro q3 (And.intro eq3 (And.intro hg2 (Exists.intro q4 (And.intro eq4 (And.intro hg2 (And.intro (Or.inl rfl) (And.intro hg5 (And.intro hg6 (And.intro (by decide) (And.intro (by decide) (And.intro hg7 (And.intro hg8 (And.intro hg9 (And.intro (Nat.le_of_ble_eq_true rfl) (?_))))))))))))))))))
  refine pb_hset (E := pb_pW (pb_pI h v0 0 (pb_I h v1 0)) q4 (va_cpy (pb_I (pb_pI h v0 0 (pb_I h v1 0)) q3) (pb_I (pb_pI h v0 0 (pb_I h v1 0)) q4) ((0 : Int32)).toNatClampNeg ((0 : Int32)).toNatClampNeg (pb_I (pb_pI h v0 0 (pb_I h v1 0)) v0 0).toNatClampNeg)) rfl (fun h10 eh10 => ?_)
  have hf := pb_hbd hf eh10
  have hg11 : pb_is h10 v1 4 := pb_isx eh10 hg1
  have hg12 : pb_is h10 v0 4 := pb_isx eh10 hg2
  have hg13 : pb_is h10 q3 12 := pb_isx eh10 hg5
  have hg14 : pb_is h10 q4 12 := pb_isx eh10 hg6
  have eq15 : pb_R h10 v1 1 = some q3 := pb_Rx eh10 eq3
  have eq16 : pb_R h10 v0 1 = some q4 := pb_Rx eh10 eq4
  obtain ⟨q17, eq17, hf⟩ := Option.bind_eq_some_iff.mp hf
  have eq18 : pb_R h10 v1 2 = some q17 := pb_Rx eh10 eq17
  obtain ⟨q19, eq19, hf⟩ := Option.bind_eq_some_iff.mp hf
  have eq20 : pb_R h10 v0 2 = some q19 := pb_Rx eh10 eq19
  obtain ⟨hg21, hf⟩ := pb_gd hf
  have hg22 : pb_is h10 q17 12 := pb_isx eh10 hg21
  obtain ⟨hg23, hf⟩ := pb_gd hf
  have hg24 : pb_is h10 q19 12 := pb_isx eh10 hg23
  obtain ⟨hg25, hf⟩ := pb_gd hf
  obtain ⟨hg26, hf⟩ := pb_gd hf
  obtain ⟨hg27, hf⟩ := pb_gd hf
  refine And.intro hg11 (Exists.intro q17 (And.intro eq18 (And.intro hg12 (Exists.intro q19 (And.intro eq20 (And.intro hg12 (And.intro (Or.inl rfl) (And.intro hg22 (And.intro hg24 (And.intro (by decide) (And.intro (by decide) (And.intro hg25 (And.intro hg26 (And.intro hg27 (And.intro (Nat.le_of_ble_eq_true rfl) (?_))))))))))))))))
  refine pb_hset (E := pb_pW h10 q19 (va_cpy (pb_I h10 q17) (pb_I h10 q19) ((0 : Int32)).toNatClampNeg ((0 : Int32)).toNatClampNeg (pb_I h10 v0 0).toNatClampNeg)) rfl (fun h28 eh28 => ?_)
  have hf := pb_hbd hf eh28
  have hg29 : pb_is h28 v1 4 := pb_isx eh28 hg11
  have hg30 : pb_is h28 v0 4 := pb_isx eh28 hg12
  have hg31 : pb_is h28 q3 12 := pb_isx eh28 hg13
  have hg32 : pb_is h28 q4 12 := pb_isx eh28 hg14
  have hg33 : pb_is h28 q17 12 := pb_isx eh28 hg22
  have hg34 : pb_is h28 q19 12 := pb_isx eh28 hg24
  have eq35 : pb_R h28 v1 1 = some q3 := pb_Rx eh28 eq15
  have eq36 : pb_R h28 v0 1 = some q4 := pb_Rx eh28 eq16
  have eq37 : pb_R h28 v1 2 = some q17 := pb_Rx eh28 eq18
  have eq38 : pb_R h28 v0 2 = some q19 := pb_Rx eh28 eq20
  obtain ⟨q39, eq39, hf⟩ := Option.bind_eq_some_iff.mp hf
  have eq40 : pb_R h10 v1 3 = some q39 := pb_Rx eh10 eq39
  have eq41 : pb_R h28 v1 3 = some q39 := pb_Rx eh28 eq40
  obtain ⟨q42, eq42, hf⟩ := Option.bind_eq_some_iff.mp hf
  have eq43 : pb_R h10 v0 3 = some q42 := pb_Rx eh10 eq42
  have eq44 : pb_R h28 v0 3 = some q42 := pb_Rx eh28 eq43
  obtain ⟨hg45, hf⟩ := pb_gd hf
  have hg46 : pb_is h10 q39 12 := pb_isx eh10 hg45
  have hg47 : pb_is h28 q39 12 := pb_isx eh28 hg46
  obtain ⟨hg48, hf⟩ := pb_gd hf
  have hg49 : pb_is h10 q42 12 := pb_isx eh10 hg48
  have hg50 : pb_is h28 q42 12 := pb_isx eh28 hg49
  obtain ⟨hg51, hf⟩ := pb_gd hf
  obtain ⟨hg52, hf⟩ := pb_gd hf
  obtain ⟨hg53, hf⟩ := pb_gd hf
  refine And.intro hg29 (Exists.intro q39 (And.intro eq41 (And.intro hg30 (Exists.intro q42 (And.intro eq44 (And.intro hg30 (And.intro (Or.inl rfl) (And.intro hg47 (And.intro hg50 (And.intro (by decide) (And.intro (by decide) (And.intro hg51 (And.intro hg52 (And.intro hg53 (And.intro (Nat.le_of_ble_eq_true rfl) (?_))))))))))))))))
  refine pb_hset (E := pb_pW h28 q42 (va_cpy (pb_I h28 q39) (pb_I h28 q42) ((0 : Int32)).toNatClampNeg ((0 : Int32)).toNatClampNeg (pb_I h28 v0 0).toNatClampNeg)) rfl (fun h54 eh54 => ?_)
  have hf := pb_hbd hf eh54
  have hg55 : pb_is h54 v1 4 := pb_isx eh54 hg29
  have hg56 : pb_is h54 v0 4 := pb_isx eh54 hg30
  have hg57 : pb_is h54 q3 12 := pb_isx eh54 hg31
  have hg58 : pb_is h54 q4 12 := pb_isx eh54 hg32
  have hg59 : pb_is h54 q17 12 := pb_isx eh54 hg33
  have hg60 : pb_is h54 q19 12 := pb_isx eh54 hg34
  have hg61 : pb_is h54 q39 12 := pb_isx eh54 hg47
  have hg62 : pb_is h54 q42 12 := pb_isx eh54 hg50
  have eq63 : pb_R h54 v1 1 = some q3 := pb_Rx eh54 eq35
  have eq64 : pb_R h54 v0 1 = some q4 := pb_Rx eh54 eq36
  have eq65 : pb_R h54 v1 2 = some q17 := pb_Rx eh54 eq37
  have eq66 : pb_R h54 v0 2 = some q19 := pb_Rx eh54 eq38
  have eq67 : pb_R h54 v1 3 = some q39 := pb_Rx eh54 eq41
  have eq68 : pb_R h54 v0 3 = some q42 := pb_Rx eh54 eq44
  obtain ⟨q69, eq69, hf⟩ := Option.bind_eq_some_iff.mp hf
  have eq70 : pb_R h10 v1 4 = some q69 := pb_Rx eh10 eq69
  have eq71 : pb_R h28 v1 4 = some q69 := pb_Rx eh28 eq70
  have eq72 : pb_R h54 v1 4 = some q69 := pb_Rx eh54 eq71
  obtain ⟨q73, eq73, hf⟩ := Option.bind_eq_some_iff.mp hf
  have eq74 : pb_R h10 v0 4 = some q73 := pb_Rx eh10 eq73
  have eq75 : pb_R h28 v0 4 = some q73 := pb_Rx eh28 eq74
  have eq76 : pb_R h54 v0 4 = some q73 := pb_Rx eh54 eq75
  obtain ⟨hg77, hf⟩ := pb_gd hf
  have hg78 : pb_is h10 q69 12 := pb_isx eh10 hg77
  have hg79 : pb_is h28 q69 12 := pb_isx eh28 hg78
  have hg80 : pb_is h54 q69 12 := pb_isx eh54 hg79
  obtain ⟨hg81, hf⟩ := pb_gd hf
  have hg82 : pb_is h10 q73 12 := pb_isx eh10 hg81
  have hg83 : pb_is h28 q73 12 := pb_isx eh28 hg82
  have hg84 : pb_is h54 q73 12 := pb_isx eh54 hg83
  obtain ⟨hg85, hf⟩ := pb_gd hf
  obtain ⟨hg86, hf⟩ := pb_gd hf
  obtain ⟨hg87, hf⟩ := pb_gd hf
  refine And.intro hg55 (Exists.intro q69 (And.intro eq72 (And.intro hg56 (Exists.intro q73 (And.intro eq76 (And.intro hg56 (And.intro (Or.inl rfl) (And.intro hg80 (And.intro hg84 (And.intro (by decide) (And.intro (by decide) (And.intro hg85 (And.intro hg86 (And.intro hg87 (And.intro (Nat.le_of_ble_eq_true rfl) (?_))))))))))))))))
  refine pb_hset (E := pb_pW h54 q73 (va_cpy (pb_I h54 q69) (pb_I h54 q73) ((0 : Int32)).toNatClampNeg ((0 : Int32)).toNatClampNeg (pb_I h54 v0 0).toNatClampNeg)) rfl (fun h88 eh88 => ?_)
  have hf := pb_hbd hf eh88
  have hg89 : pb_is h88 v1 4 := pb_isx eh88 hg55
  have hg90 : pb_is h88 v0 4 := pb_isx eh88 hg56
  have hg91 : pb_is h88 q3 12 := pb_isx eh88 hg57
  have hg92 : pb_is h88 q4 12 := pb_isx eh88 hg58
  have hg93 : pb_is h88 q17 12 := pb_isx eh88 hg59
  have hg94 : pb_is h88 q19 12 := pb_isx eh88 hg60
  have hg95 : pb_is h88 q39 12 := pb_isx eh88 hg61
  have hg96 : pb_is h88 q42 12 := pb_isx eh88 hg62
  have hg97 : pb_is h88 q69 12 := pb_isx eh88 hg80
  have hg98 : pb_is h88 q73 12 := pb_isx eh88 hg84
  have eq99 : pb_R h88 v1 1 = some q3 := pb_Rx eh88 eq63
  have eq100 : pb_R h88 v0 1 = some q4 := pb_Rx eh88 eq64
  have eq101 : pb_R h88 v1 2 = some q17 := pb_Rx eh88 eq65
  have eq102 : pb_R h88 v0 2 = some q19 := pb_Rx eh88 eq66
  have eq103 : pb_R h88 v1 3 = some q39 := pb_Rx eh88 eq67
  have eq104 : pb_R h88 v0 3 = some q42 := pb_Rx eh88 eq68
  have eq105 : pb_R h88 v1 4 = some q69 := pb_Rx eh88 eq72
  have eq106 : pb_R h88 v0 4 = some q73 := pb_Rx eh88 eq76
  cases hf
  exact And.intro rfl rfl
def f_74_14 (h : pb_HP) (v0 : Nat) (v1 : Int32) (v2 : Int32) : Option (Int32) :=
  if v1 < 0 then (some ((-2))) else (if pb_is h v0 4 then (if (pb_I h v0 0) ≤ v1 then (some ((-2))) else (if v2 ≤ (pb_I h v0 5) then (if v2 = 0 then ((pb_R h v0 1).bind fun q3 => (if pb_ar h q3 12 v1 then (some (pb_I h q3 v1.toNatClampNeg)) else none)) else if v2 = 1 then ((pb_R h v0 2).bind fun q6 => (if pb_ar h q6 12 v1 then (some (pb_I h q6 v1.toNatClampNeg)) else none)) else if v2 = 2 then ((pb_R h v0 3).bind fun q9 => (if pb_ar h q9 12 v1 then (some (pb_I h q9 v1.toNatClampNeg)) else none)) else if v2 = 3 then ((pb_R h v0 4).bind fun q12 => (if pb_ar h q12 12 v1 then (some (pb_I h q12 v1.toNatClampNeg)) else none)) else (some ((-2)))) else (some ((-2))))) else none)
/-- Lines.told -/
def f_74 (h : pb_HP) (v0 : Nat) (v1 : Int32) (v2 : Int32) : Option (Int32) :=
  if ¬ v1 = ((-1)) then (f_74_14 h v0 v1 v2) else (if ¬ v2 = 0 then (f_74_14 h v0 v1 v2) else (if pb_is h v0 4 then (some (pb_I h v0 0)) else none))
set_option maxRecDepth 4000 in
theorem l_74 {xs : List Int32} {d : Nat} {h : pb_HP} {v0 : Nat} {v1 : Int32} {v2 : Int32} {r : Int32} (hf : f_74 h v0 v1 v2 = some r) : pb_AR xs (d + 1) 74 h [.ref v0, .int v1, .int v2] (some (.int r)) h := by
  intro G hG
  have hc_ : pb_CODE 74 = kc_74 := rfl
  rw [hc_] at hG
  have hj_14 : ∀ (v0 : Nat) (v1 : Int32) (v2 : Int32), f_74_14 h v0 v1 v2 = some r → G 14 [(0, .ref v0), (1, .int v1), (2, .int v2)] [] h := by
    intro v0 v1 v2 hf
    unfold f_74_14 at hf
    refine hG.1 1 14 kb_74_14 _ _ _ rfl ?_
    refine And.intro (fun (hc16 : v1 < 0) => ?_) (fun (hc16 : ¬ (v1 < 0)) => ?_)
    · rw [if_pos hc16] at hf
      refine hG.1 2 34 kb_74_34 _ _ _ rfl ?_
      cases hf
      exact And.intro (fun z_ => absurd z_ (by decide)) (And.intro rfl rfl)
    · rw [if_neg hc16] at hf
      obtain ⟨hg1, hf⟩ := pb_gd hf
      refine And.intro hg1 (?_)
      refine And.intro (fun (hc15 : (pb_I h v0 0) ≤ v1) => ?_) (fun (hc15 : ¬ ((pb_I h v0 0) ≤ v1)) => ?_)
      · rw [if_pos hc15] at hf
        refine hG.1 2 34 kb_74_34 _ _ _ rfl ?_
        cases hf
        exact And.intro (fun z_ => absurd z_ (by decide)) (And.intro rfl rfl)
      · rw [if_neg hc15] at hf
        refine And.intro hg1 (?_)
        refine And.intro (fun (hc14 : v2 ≤ (pb_I h v0 5)) => ?_) (fun (hc14 : ¬ (v2 ≤ (pb_I h v0 5))) => ?_)
        · rw [if_pos hc14] at hf
          refine hG.1 3 37 kb_74_37 _ _ _ rfl ?_
          by_cases hc2 : v2 = 0
          · rw [if_pos hc2] at hf
            refine pb_gs (G := G) (tgt := 68) (show pb_swt 38 58 0 3 #[30, 37, 44, 51] v2 = 68 by rw [hc2]; decide) ?_
            refine hG.1 4 68 kb_74_68 _ _ _ rfl ?_
            obtain ⟨q3, eq3, hf⟩ := Option.bind_eq_some_iff.mp hf
            obtain ⟨hg4, hf⟩ := pb_gd hf
            refine And.intro hg1 (Exists.intro q3 (And.intro eq3 (And.intro hg4 (?_))))
            cases hf
            exact And.intro (fun z_ => absurd z_ (by decide)) (And.intro rfl rfl)
          rw [if_neg hc2] at hf
          by_cases hc5 : v2 = 1
          · rw [if_pos hc5] at hf
            refine pb_gs (G := G) (tgt := 75) (show pb_swt 38 58 0 3 #[30, 37, 44, 51] v2 = 75 by rw [hc5]; decide) ?_
            refine hG.1 5 75 kb_74_75 _ _ _ rfl ?_
            obtain ⟨q6, eq6, hf⟩ := Option.bind_eq_some_iff.mp hf
            obtain ⟨hg7, hf⟩ := pb_gd hf
            refine And.intro hg1 (Exists.intro q6 (And.intro eq6 (And.intro hg7 (?_))))
            cases hf
            exact And.intro (fun z_ => absurd z_ (by decide)) (And.intro rfl rfl)
          rw [if_neg hc5] at hf
          by_cases hc8 : v2 = 2
          · rw [if_pos hc8] at hf
            refine pb_gs (G := G) (tgt := 82) (show pb_swt 38 58 0 3 #[30, 37, 44, 51] v2 = 82 by rw [hc8]; decide) ?_
            refine hG.1 6 82 kb_74_82 _ _ _ rfl ?_
            obtain ⟨q9, eq9, hf⟩ := Option.bind_eq_some_iff.mp hf
            obtain ⟨hg10, hf⟩ := pb_gd hf
            refine And.intro hg1 (Exists.intro q9 (And.intro eq9 (And.intro hg10 (?_))))
            cases hf
            exact And.intro (fun z_ => absurd z_ (by decide)) (And.intro rfl rfl)
          rw [if_neg hc8] at hf
          by_cases hc11 : v2 = 3
          · rw [if_pos hc11] at hf
            refine pb_gs (G := G) (tgt := 89) (show pb_swt 38 58 0 3 #[30, 37, 44, 51] v2 = 89 by rw [hc11]; decide) ?_
            refine hG.1 7 89 kb_74_89 _ _ _ rfl ?_
            obtain ⟨q12, eq12, hf⟩ := Option.bind_eq_some_iff.mp hf
            obtain ⟨hg13, hf⟩ := pb_gd hf
            refine And.intro hg1 (Exists.intro q12 (And.intro eq12 (And.intro hg13 (?_))))
            cases hf
            exact And.intro (fun z_ => absurd z_ (by decide)) (And.intro rfl rfl)
          rw [if_neg hc11] at hf
          refine pb_gs (G := G) (tgt := 96) (show pb_swt 38 58 0 3 #[30, 37, 44, 51] v2 = 96 from pb_swd (by decide) (by decide) (fun k_ hk_ => by
            have hk_ : k_ < 4 := hk_
            match k_, hk_ with
            | 0, _ => exact hc2
            | 1, _ => exact hc5
            | 2, _ => exact hc8
            | 3, _ => exact hc11
            | k_ + 4, hk_ => omega)) ?_
          refine hG.1 8 96 kb_74_96 _ _ _ rfl ?_
          cases hf
          exact And.intro (fun z_ => absurd z_ (by decide)) (And.intro rfl rfl)
        · rw [if_neg hc14] at hf
          refine hG.1 2 34 kb_74_34 _ _ _ rfl ?_
          cases hf
          exact And.intro (fun z_ => absurd z_ (by decide)) (And.intro rfl rfl)
  unfold f_74 at hf
  refine hG.1 0 0 kb_74_0 _ _ _ rfl ?_
  refine And.intro (fun (hc19 : ¬ v1 = ((-1))) => ?_) (fun (hc19 : ¬ (¬ v1 = ((-1)))) => ?_)
  · rw [if_pos hc19] at hf
    exact hj_14 _ _ _ hf
  · rw [if_neg hc19] at hf
    refine And.intro (fun (hc18 : ¬ v2 = 0) => ?_) (fun (hc18 : ¬ (¬ v2 = 0)) => ?_)
    · rw [if_pos hc18] at hf
      exact hj_14 _ _ _ hf
    · rw [if_neg hc18] at hf
      obtain ⟨hg17, hf⟩ := pb_gd hf
      refine And.intro hg17 (?_)
      cases hf
      exact And.intro (fun z_ => absurd z_ (by decide)) (And.intro rfl rfl)
def f_77_4s (N : Nat) (h : pb_HP) (v0 : Nat) (v1 : Int32) (s : Int32 × Int32) : Option ((Int32 × Int32) ⊕ (Int32)) :=
  if 6 ≤ s.2 then (some (.inr s.1)) else (if ((v1 >>> (s.2 &&& 31)) &&& 1) = 0 then (some (.inl ((s.1, s.2 + 1)))) else (if pb_is h v0 5 then ((pb_R h v0 2).bind fun q2 => (if pb_ar h q2 12 s.2 then (if (pb_I h q2 s.2.toNatClampNeg) = 6 then (some (.inl ((s.1, s.2 + 1)))) else (some (.inl ((s.1 + ((1 : Int32) <<< ((4 * (pb_I h q2 s.2.toNatClampNeg)) &&& 31)), s.2 + 1))))) else none)) else none))
def f_77_57s (N : Nat) (h : pb_HP) (v0 : Nat) (v2 : Int32) (s : Int32 × Int32 × Int32) : Option ((Int32 × Int32 × Int32) ⊕ (Int32)) :=
  if pb_is h v0 5 then (if (pb_I h v0 1) ≤ s.2.2 then (some (.inr s.2.1)) else (if ((v2 >>> ((4 * s.2.2) &&& 31)) &&& 15) ≤ s.1 then (some (.inl ((s.1, s.2.1, s.2.2 + 1)))) else (some (.inl (((v2 >>> ((4 * s.2.2) &&& 31)) &&& 15, s.2.2, s.2.2 + 1)))))) else none
/-- Poll.chosenBy -/
def f_77 (N : Nat) (h : pb_HP) (v0 : Nat) (v1 : Int32) : Option (Int32) :=
  (pb_wl (f_77_4s N h v0 v1) N ((0, 0))).bind fun e7 => ((pb_wl (f_77_57s N h v0 e7) N ((0, 6, 0))).bind fun e11 => (some e11))
set_option maxRecDepth 4000 in
theorem l_77 {xs : List Int32} {d : Nat} {N : Nat} {h : pb_HP} {v0 : Nat} {v1 : Int32} {r : Int32} (hf : f_77 N h v0 v1 = some r) : pb_AR xs (d + 1) 77 h [.ref v0, .int v1] (some (.int r)) h := by
  intro G hG
  have hc_ : pb_CODE 77 = kc_77 := rfl
  rw [hc_] at hG
  have hl_4 : ∀ (v0 : Nat) (v1 : Int32) (n_ : Nat) (s : Int32 × Int32) (e : Int32), pb_wl (f_77_4s N h v0 v1) n_ s = some e → G 48 [(0, .ref v0), (2, .int e)] [] h → G 4 [(0, .ref v0), (1, .int v1), (2, .int s.1), (3, .int s.2)] [] h := by
    intro v0 v1
    refine pb_wl_ind (I := fun (s : Int32 × Int32) => G 4 [(0, .ref v0), (1, .int v1), (2, .int s.1), (3, .int s.2)] [] h) (K := fun (e : Int32) => G 48 [(0, .ref v0), (2, .int e)] [] h) (fun s x hf hk => ?_)
    unfold f_77_4s at hf
    refine hG.1 1 4 kb_77_4 _ _ _ rfl ?_
    refine And.intro (fun (hc6 : 6 ≤ s.2) => ?_) (fun (hc6 : ¬ (6 ≤ s.2)) => ?_)
    · rw [if_pos hc6] at hf
      cases hf
      exact hG.2 48 _ [0, 2] _ _ _ rfl hk
    · rw [if_neg hc6] at hf
      refine And.intro (fun (hc5 : ((v1 >>> (s.2 &&& 31)) &&& 1) = 0) => ?_) (fun (hc5 : ¬ (((v1 >>> (s.2 &&& 31)) &&& 1) = 0)) => ?_)
      · rw [if_pos hc5] at hf
        refine hG.1 2 42 kb_77_42 _ _ _ rfl ?_
        cases hf
        exact hk
      · rw [if_neg hc5] at hf
        obtain ⟨hg1, hf⟩ := pb_gd hf
        obtain ⟨q2, eq2, hf⟩ := Option.bind_eq_some_iff.mp hf
        obtain ⟨hg3, hf⟩ := pb_gd hf
        refine And.intro hg1 (Exists.intro q2 (And.intro eq2 (And.intro hg3 (?_))))
        refine And.intro (fun (hc4 : (pb_I h q2 s.2.toNatClampNeg) = 6) => ?_) (fun (hc4 : ¬ ((pb_I h q2 s.2.toNatClampNeg) = 6)) => ?_)
        · rw [if_pos hc4] at hf
          refine hG.1 2 42 kb_77_42 _ _ _ rfl ?_
          cases hf
          exact hk
        · rw [if_neg hc4] at hf
          refine And.intro hg1 (Exists.intro q2 (And.intro eq2 (And.intro hg3 (?_))))
          refine hG.1 2 42 kb_77_42 _ _ _ rfl ?_
          cases hf
          exact hk
  have hl_57 : ∀ (v0 : Nat) (v2 : Int32) (n_ : Nat) (s : Int32 × Int32 × Int32) (e : Int32), pb_wl (f_77_57s N h v0 v2) n_ s = some e → G 96 [(4, .int e)] [] h → G 57 [(0, .ref v0), (2, .int v2), (3, .int s.1), (4, .int s.2.1), (5, .int s.2.2)] [] h := by
    intro v0 v2
    refine pb_wl_ind (I := fun (s : Int32 × Int32 × Int32) => G 57 [(0, .ref v0), (2, .int v2), (3, .int s.1), (4, .int s.2.1), (5, .int s.2.2)] [] h) (K := fun (e : Int32) => G 96 [(4, .int e)] [] h) (fun s x hf hk => ?_)
    unfold f_77_57s at hf
    refine hG.1 4 57 kb_77_57 _ _ _ rfl ?_
    obtain ⟨hg8, hf⟩ := pb_gd hf
    refine And.intro hg8 (?_)
    refine And.intro (fun (hc10 : (pb_I h v0 1) ≤ s.2.2) => ?_) (fun (hc10 : ¬ ((pb_I h v0 1) ≤ s.2.2)) => ?_)
    · rw [if_pos hc10] at hf
      cases hf
      exact hG.2 96 _ [3] _ _ _ rfl hk
    · rw [if_neg hc10] at hf
      refine And.intro (fun (hc9 : ((v2 >>> ((4 * s.2.2) &&& 31)) &&& 15) ≤ s.1) => ?_) (fun (hc9 : ¬ (((v2 >>> ((4 * s.2.2) &&& 31)) &&& 15) ≤ s.1)) => ?_)
      · rw [if_pos hc9] at hf
        refine hG.1 5 90 kb_77_90 _ _ _ rfl ?_
        cases hf
        exact hG.2 57 _ [0, 1, 2, 3, 4] _ _ _ rfl hk
      · rw [if_neg hc9] at hf
        refine hG.1 5 90 kb_77_90 _ _ _ rfl ?_
        cases hf
        exact hG.2 57 _ [0, 1, 2, 3, 4] _ _ _ rfl hk
  unfold f_77 at hf
  refine hG.1 0 0 kb_77_0 _ _ _ rfl ?_
  obtain ⟨e7, he_e7, hf⟩ := Option.bind_eq_some_iff.mp hf
  refine hl_4 _ _ _ _ _ he_e7 ?_
  refine hG.1 3 48 kb_77_48 _ _ _ rfl ?_
  obtain ⟨e11, he_e11, hf⟩ := Option.bind_eq_some_iff.mp hf
  refine hl_57 _ _ _ _ _ he_e11 ?_
  refine hG.1 6 96 kb_77_96 _ _ _ rfl ?_
  cases hf
  exact And.intro (fun z_ => absurd z_ (by decide)) (And.intro rfl rfl)
/-- Poll.isBenchOf -/
def f_78 (v0 : Nat) (v1 : Int32) (v2 : Int32) : Option (Int32) :=
  if ¬ (v1 &&& (v2 ^^^ ((-1)))) = 0 then (some 0) else (some 1)
set_option maxRecDepth 4000 in
theorem l_78 {xs : List Int32} {d : Nat} {h : pb_HP} {v0 : Nat} {v1 : Int32} {v2 : Int32} {r : Int32} (hf : f_78 v0 v1 v2 = some r) : pb_AR xs (d + 1) 78 h [.ref v0, .int v1, .int v2] (some (.int r)) h := by
  intro G hG
  have hc_ : pb_CODE 78 = kc_78 := rfl
  rw [hc_] at hG
  unfold f_78 at hf
  refine hG.1 0 0 kb_78_0 _ _ _ rfl ?_
  refine And.intro (fun (hc1 : ¬ (v1 &&& (v2 ^^^ ((-1)))) = 0) => ?_) (fun (hc1 : ¬ (¬ (v1 &&& (v2 ^^^ ((-1)))) = 0)) => ?_)
  · rw [if_pos hc1] at hf
    refine hG.1 1 12 kb_78_12 _ _ _ rfl ?_
    refine hG.1 2 13 kb_78_13 _ _ _ rfl ?_
    cases hf
    exact And.intro (fun _ => Or.inl rfl) (And.intro rfl rfl)
  · rw [if_neg hc1] at hf
    refine hG.1 2 13 kb_78_13 _ _ _ rfl ?_
    cases hf
    exact And.intro (fun _ => Or.inr rfl) (And.intro rfl rfl)
/-- Reader.blame -/
def f_87 (h : pb_HP) (v0 : Nat) (v1 : Int32) (v2 : Int32) : Option (pb_HP) :=
  if pb_is h v0 6 then (if ¬ (pb_I h v0 3) = 0 then (some h) else (some (pb_pI (pb_pI h v0 3 v1) v0 4 v2))) else none
set_option maxRecDepth 4000 in
theorem l_87 {xs : List Int32} {d : Nat} {h : pb_HP} {v0 : Nat} {v1 : Int32} {v2 : Int32} {hE : pb_HP} (hf : f_87 h v0 v1 v2 = some hE) : pb_AR xs (d + 1) 87 h [.ref v0, .int v1, .int v2] none hE := by
  intro G hG
  have hc_ : pb_CODE 87 = kc_87 := rfl
  rw [hc_] at hG
  unfold f_87 at hf
  refine hG.1 0 0 kb_87_0 _ _ _ rfl ?_
  obtain ⟨hg1, hf⟩ := pb_gd hf
  refine And.intro hg1 (?_)
  refine And.intro (fun (hc2 : ¬ (pb_I h v0 3) = 0) => ?_) (fun (hc2 : ¬ (¬ (pb_I h v0 3) = 0)) => ?_)
  · rw [if_pos hc2] at hf
    refine hG.1 1 17 kb_87_17 _ _ _ rfl ?_
    cases hf
    exact And.intro rfl rfl
  · rw [if_neg hc2] at hf
    refine And.intro hg1 (And.intro hg1 (?_))
    refine hG.1 1 17 kb_87_17 _ _ _ rfl ?_
    cases hf
    exact And.intro rfl rfl
/-- Reader.isLetter -/
def f_89 (v0 : Int32) : Option (Int32) :=
  if v0 < 97 then (some 0) else (if 122 < v0 then (some 0) else (some 1))
set_option maxRecDepth 4000 in
theorem l_89 {xs : List Int32} {d : Nat} {h : pb_HP} {v0 : Int32} {r : Int32} (hf : f_89 v0 = some r) : pb_AR xs (d + 1) 89 h [.int v0] (some (.int r)) h := by
  intro G hG
  have hc_ : pb_CODE 89 = kc_89 := rfl
  rw [hc_] at hG
  unfold f_89 at hf
  refine hG.1 0 0 kb_89_0 _ _ _ rfl ?_
  refine And.intro (fun (hc2 : v0 < 97) => ?_) (fun (hc2 : ¬ (v0 < 97)) => ?_)
  · rw [if_pos hc2] at hf
    refine hG.1 1 16 kb_89_16 _ _ _ rfl ?_
    refine hG.1 2 17 kb_89_17 _ _ _ rfl ?_
    cases hf
    exact And.intro (fun _ => Or.inl rfl) (And.intro rfl rfl)
  · rw [if_neg hc2] at hf
    refine And.intro (fun (hc1 : 122 < v0) => ?_) (fun (hc1 : ¬ (122 < v0)) => ?_)
    · rw [if_pos hc1] at hf
      refine hG.1 1 16 kb_89_16 _ _ _ rfl ?_
      refine hG.1 2 17 kb_89_17 _ _ _ rfl ?_
      cases hf
      exact And.intro (fun _ => Or.inl rfl) (And.intro rfl rfl)
    · rw [if_neg hc1] at hf
      refine hG.1 2 17 kb_89_17 _ _ _ rfl ?_
      cases hf
      exact And.intro (fun _ => Or.inr rfl) (And.intro rfl rfl)
/-- Reader.isDigit -/
def f_90 (v0 : Int32) : Option (Int32) :=
  if v0 < 48 then (some 0) else (if 57 < v0 then (some 0) else (some 1))
set_option maxRecDepth 4000 in
theorem l_90 {xs : List Int32} {d : Nat} {h : pb_HP} {v0 : Int32} {r : Int32} (hf : f_90 v0 = some r) : pb_AR xs (d + 1) 90 h [.int v0] (some (.int r)) h := by
  intro G hG
  have hc_ : pb_CODE 90 = kc_90 := rfl
  rw [hc_] at hG
  unfold f_90 at hf
  refine hG.1 0 0 kb_90_0 _ _ _ rfl ?_
  refine And.intro (fun (hc2 : v0 < 48) => ?_) (fun (hc2 : ¬ (v0 < 48)) => ?_)
  · rw [if_pos hc2] at hf
    refine hG.1 1 16 kb_90_16 _ _ _ rfl ?_
    refine hG.1 2 17 kb_90_17 _ _ _ rfl ?_
    cases hf
    exact And.intro (fun _ => Or.inl rfl) (And.intro rfl rfl)
  · rw [if_neg hc2] at hf
    refine And.intro (fun (hc1 : 57 < v0) => ?_) (fun (hc1 : ¬ (57 < v0)) => ?_)
    · rw [if_pos hc1] at hf
      refine hG.1 1 16 kb_90_16 _ _ _ rfl ?_
      refine hG.1 2 17 kb_90_17 _ _ _ rfl ?_
      cases hf
      exact And.intro (fun _ => Or.inl rfl) (And.intro rfl rfl)
    · rw [if_neg hc1] at hf
      refine hG.1 2 17 kb_90_17 _ _ _ rfl ?_
      cases hf
      exact And.intro (fun _ => Or.inr rfl) (And.intro rfl rfl)
def f_93_37 (N : Nat) (h : pb_HP) (v0 : Nat) (v1 : Int32) (v2 : Int32) (s0 : Int32) : Option ((Int32) ⊕ ((Int32) ⊕ (Unit))) :=
  if pb_in ((v1 * 8) + v2) pb_WD.length then (if s0 = (pb_WD.getD ((v1 * 8) + v2).toNatClampNeg 0) then (some (.inl (v2 + 1))) else (some (.inr (.inl 0)))) else none
def f_93_2s (N : Nat) (h : pb_HP) (v0 : Nat) (v1 : Int32) (s : Int32) : Option ((Int32) ⊕ ((Int32) ⊕ (Unit))) :=
  if 8 ≤ s then (some (.inr (.inr (())))) else (if pb_is h v0 6 then (if (pb_I h v0 9) ≤ ((pb_I h v0 8) + s) then (f_93_37 N h v0 v1 s 32) else ((pb_R h v0 5).bind fun q4 => (if pb_ar h q4 13 ((pb_I h v0 8) + s) then (f_93_37 N h v0 v1 s (pb_I h q4 ((pb_I h v0 8) + s).toNatClampNeg)) else none))) else none)
/-- Reader.isWordOf -/
def f_93 (N : Nat) (h : pb_HP) (v0 : Nat) (v1 : Int32) : Option (Int32) :=
  (pb_wl (f_93_2s N h v0 v1) N 0).bind fun e8 => (match e8 with | .inl q10 => some q10 | .inr x9 => some 1)
set_option maxRecDepth 4000 in
theorem l_93 {xs : List Int32} {d : Nat} {N : Nat} {h : pb_HP} {v0 : Nat} {v1 : Int32} {r : Int32} (hf : f_93 N h v0 v1 = some r) : pb_AR xs (d + 1) 93 h [.ref v0, .int v1] (some (.int r)) h := by
  intro G hG
  have hc_ : pb_CODE 93 = kc_93 := rfl
  rw [hc_] at hG
  have hj_37 : ∀ (v0 : Nat) (v1 : Int32) (v2 : Int32) (s0 : Int32) x, f_93_37 N h v0 v1 v2 s0 = some x → pb_kk (fun (s_ : Int32) => G 2 [(0, .ref v0), (1, .int v1), (2, .int s_)] [] h) (fun (e_ : (Int32) ⊕ (Unit)) => pb_kk (fun (q_ : Int32) => q_ = r) (fun (x_ : Unit) => G 61 [] [] h) e_) x → G 37 [(0, .ref v0), (1, .int v1), (2, .int v2)] [.int s0] h := by
    intro v0 v1 v2 s0 x hf hk
    unfold f_93_37 at hf
    refine hG.1 3 37 kb_93_37 _ _ _ rfl ?_
    obtain ⟨hg2, hf⟩ := pb_gd hf
    refine And.intro rfl (And.intro hg2 (And.intro (Nat.le_of_ble_eq_true rfl) (?_)))
    refine And.intro (fun (hc3 : s0 = (pb_WD.getD ((v1 * 8) + v2).toNatClampNeg 0)) => ?_) (fun (hc3 : ¬ (s0 = (pb_WD.getD ((v1 * 8) + v2).toNatClampNeg 0))) => ?_)
    · rw [if_pos hc3] at hf
      refine hG.1 4 55 kb_93_55 _ _ _ rfl ?_
      cases hf
      exact hG.2 2 _ [0, 1, 2] _ _ _ rfl hk
    · rw [if_neg hc3] at hf
      cases hf
      cases hk
      exact And.intro (fun _ => Or.inl rfl) (And.intro rfl rfl)
  have hl_2 : ∀ (v0 : Nat) (v1 : Int32) (n_ : Nat) (s : Int32) (e : (Int32) ⊕ (Unit)), pb_wl (f_93_2s N h v0 v1) n_ s = some e → pb_kk (fun (q_ : Int32) => q_ = r) (fun (x_ : Unit) => G 61 [] [] h) e → G 2 [(0, .ref v0), (1, .int v1), (2, .int s)] [] h := by
    intro v0 v1
    refine pb_wl_ind (I := fun (s : Int32) => G 2 [(0, .ref v0), (1, .int v1), (2, .int s)] [] h) (K := fun (e : (Int32) ⊕ (Unit)) => pb_kk (fun (q_ : Int32) => q_ = r) (fun (x_ : Unit) => G 61 [] [] h) e) (fun s x hf hk => ?_)
    unfold f_93_2s at hf
    refine hG.1 1 2 kb_93_2 _ _ _ rfl ?_
    refine And.intro (fun (hc7 : 8 ≤ s) => ?_) (fun (hc7 : ¬ (8 ≤ s)) => ?_)
    · rw [if_pos hc7] at hf
      cases hf
      exact hG.2 61 _ [] _ _ _ rfl hk
    · rw [if_neg hc7] at hf
      obtain ⟨hg1, hf⟩ := pb_gd hf
      refine And.intro hg1 (And.intro hg1 (?_))
      refine And.intro (fun (hc6 : (pb_I h v0 9) ≤ ((pb_I h v0 8) + s)) => ?_) (fun (hc6 : ¬ ((pb_I h v0 9) ≤ ((pb_I h v0 8) + s))) => ?_)
      · rw [if_pos hc6] at hf
        refine hG.1 2 35 kb_93_35 _ _ _ rfl ?_
        exact hj_37 _ _ _ _ _ hf hk
      · rw [if_neg hc6] at hf
        obtain ⟨q4, eq4, hf⟩ := Option.bind_eq_some_iff.mp hf
        obtain ⟨hg5, hf⟩ := pb_gd hf
        refine And.intro hg1 (Exists.intro q4 (And.intro eq4 (And.intro hg1 (And.intro hg5 (?_)))))
        exact hj_37 _ _ _ _ _ hf hk
  unfold f_93 at hf
  refine hG.1 0 0 kb_93_0 _ _ _ rfl ?_
  obtain ⟨e8, he_e8, hf⟩ := Option.bind_eq_some_iff.mp hf
  refine hl_2 _ _ _ _ _ he_e8 ?_
  cases e8 with
  | inl q10 =>
    exact Option.some.inj hf
  | inr x9 =>
    try dsimp only at hf
    refine hG.1 5 61 kb_93_61 _ _ _ rfl ?_
    cases hf
    exact And.intro (fun _ => Or.inr rfl) (And.intro rfl rfl)
def f_95_7s (N : Nat) (h : pb_HP) (v0 : Nat) (s : Int32 × Int32) : Option ((Int32 × Int32) ⊕ (Int32)) :=
  if pb_is h v0 6 then (if (pb_I h v0 9) ≤ s.2 then (some (.inr s.1)) else ((pb_R h v0 5).bind fun q3 => (if pb_ar h q3 13 s.2 then (some (.inl ((((10 * s.1) + (pb_I h q3 s.2.toNatClampNeg)) - 48, s.2 + 1)))) else none))) else none
/-- Reader.value -/
def f_95 (N : Nat) (h : pb_HP) (v0 : Nat) : Option (Int32) :=
  if pb_is h v0 6 then ((pb_wl (f_95_7s N h v0) N ((0, pb_I h v0 8))).bind fun e6 => (some e6)) else none
set_option maxRecDepth 4000 in
theorem l_95 {xs : List Int32} {d : Nat} {N : Nat} {h : pb_HP} {v0 : Nat} {r : Int32} (hf : f_95 N h v0 = some r) : pb_AR xs (d + 1) 95 h [.ref v0] (some (.int r)) h := by
  intro G hG
  have hc_ : pb_CODE 95 = kc_95 := rfl
  rw [hc_] at hG
  have hl_7 : ∀ (v0 : Nat) (n_ : Nat) (s : Int32 × Int32) (e : Int32), pb_wl (f_95_7s N h v0) n_ s = some e → G 36 [(1, .int e)] [] h → G 7 [(0, .ref v0), (1, .int s.1), (2, .int s.2)] [] h := by
    intro v0
    refine pb_wl_ind (I := fun (s : Int32 × Int32) => G 7 [(0, .ref v0), (1, .int s.1), (2, .int s.2)] [] h) (K := fun (e : Int32) => G 36 [(1, .int e)] [] h) (fun s x hf hk => ?_)
    unfold f_95_7s at hf
    refine hG.1 1 7 kb_95_7 _ _ _ rfl ?_
    obtain ⟨hg2, hf⟩ := pb_gd hf
    refine And.intro hg2 (?_)
    refine And.intro (fun (hc5 : (pb_I h v0 9) ≤ s.2) => ?_) (fun (hc5 : ¬ ((pb_I h v0 9) ≤ s.2)) => ?_)
    · rw [if_pos hc5] at hf
      cases hf
      exact hG.2 36 _ [1] _ _ _ rfl hk
    · rw [if_neg hc5] at hf
      obtain ⟨q3, eq3, hf⟩ := Option.bind_eq_some_iff.mp hf
      obtain ⟨hg4, hf⟩ := pb_gd hf
      refine And.intro hg2 (Exists.intro q3 (And.intro eq3 (And.intro hg4 (?_))))
      cases hf
      exact hk
  unfold f_95 at hf
  refine hG.1 0 0 kb_95_0 _ _ _ rfl ?_
  obtain ⟨hg1, hf⟩ := pb_gd hf
  refine And.intro hg1 (?_)
  obtain ⟨e6, he_e6, hf⟩ := Option.bind_eq_some_iff.mp hf
  refine hl_7 _ _ _ _ he_e6 ?_
  refine hG.1 2 36 kb_95_36 _ _ _ rfl ?_
  cases hf
  exact And.intro (fun z_ => absurd z_ (by decide)) (And.intro rfl rfl)
def f_96_55 (h : pb_HP) (s0 : Int32) (s1 : Int32) : Option (Int32) :=
  if s1 < s0 then (some 0) else (some 1)
def f_96_21 (h : pb_HP) (v0 : Nat) (v1 : Int32) (v2 : Int32) (s0 : Int32) : Option (Int32) :=
  if pb_is h v0 6 then ((pb_R h v0 12).bind fun q3 => (if pb_ar h q3 12 v2 then (if pb_in ((v1 * 3) + v2) pb_S3.length then (if (pb_S3.getD ((v1 * 3) + v2).toNatClampNeg 0) < (pb_I h q3 v2.toNatClampNeg) then (some 0) else (if s0 = 0 then (f_96_55 h 0 (pb_I h q3 v2.toNatClampNeg)) else (f_96_55 h 1 (pb_I h q3 v2.toNatClampNeg)))) else none) else none)) else none
/-- Reader.canBe -/
def f_96 (h : pb_HP) (v0 : Nat) (v1 : Int32) (v2 : Int32) : Option (Int32) :=
  if pb_in 1 pb_S4.length then (if ¬ v1 = ((pb_S4.getD (1 : Int32).toNatClampNeg 0) + 3) then (f_96_21 h v0 v1 v2 0) else (if ¬ v2 = 2 then (f_96_21 h v0 v1 v2 0) else (f_96_21 h v0 v1 v2 1))) else none
set_option maxRecDepth 4000 in
theorem l_96 {xs : List Int32} {d : Nat} {h : pb_HP} {v0 : Nat} {v1 : Int32} {v2 : Int32} {r : Int32} (hf : f_96 h v0 v1 v2 = some r) : pb_AR xs (d + 1) 96 h [.ref v0, .int v1, .int v2] (some (.int r)) h := by
  intro G hG
  have hc_ : pb_CODE 96 = kc_96 := rfl
  rw [hc_] at hG
  have hj_55 : ∀ (s0 : Int32) (s1 : Int32), f_96_55 h s0 s1 = some r → G 55 [] [.int s0, .int s1] h := by
    intro s0 s1 hf
    unfold f_96_55 at hf
    refine hG.1 4 55 kb_96_55 _ _ _ rfl ?_
    refine And.intro (fun (hc6 : s1 < s0) => ?_) (fun (hc6 : ¬ (s1 < s0)) => ?_)
    · rw [if_pos hc6] at hf
      refine hG.1 5 62 kb_96_62 _ _ _ rfl ?_
      refine hG.1 6 63 kb_96_63 _ _ _ rfl ?_
      cases hf
      exact And.intro (fun _ => Or.inl rfl) (And.intro rfl rfl)
    · rw [if_neg hc6] at hf
      refine hG.1 6 63 kb_96_63 _ _ _ rfl ?_
      cases hf
      exact And.intro (fun _ => Or.inr rfl) (And.intro rfl rfl)
  have hj_21 : ∀ (v0 : Nat) (v1 : Int32) (v2 : Int32) (s0 : Int32), f_96_21 h v0 v1 v2 s0 = some r → G 21 [(0, .ref v0), (1, .int v1), (2, .int v2)] [.int s0] h := by
    intro v0 v1 v2 s0 hf
    unfold f_96_21 at hf
    refine hG.1 2 21 kb_96_21 _ _ _ rfl ?_
    obtain ⟨hg2, hf⟩ := pb_gd hf
    obtain ⟨q3, eq3, hf⟩ := Option.bind_eq_some_iff.mp hf
    obtain ⟨hg4, hf⟩ := pb_gd hf
    obtain ⟨hg5, hf⟩ := pb_gd hf
    refine And.intro hg2 (Exists.intro q3 (And.intro eq3 (And.intro hg4 (And.intro hg5 (?_)))))
    refine And.intro (fun (hc8 : (pb_S3.getD ((v1 * 3) + v2).toNatClampNeg 0) < (pb_I h q3 v2.toNatClampNeg)) => ?_) (fun (hc8 : ¬ ((pb_S3.getD ((v1 * 3) + v2).toNatClampNeg 0) < (pb_I h q3 v2.toNatClampNeg))) => ?_)
    · rw [if_pos hc8] at hf
      refine hG.1 5 62 kb_96_62 _ _ _ rfl ?_
      refine hG.1 6 63 kb_96_63 _ _ _ rfl ?_
      cases hf
      exact And.intro (fun _ => Or.inl rfl) (And.intro rfl rfl)
    · rw [if_neg hc8] at hf
      refine And.intro hg2 (Exists.intro q3 (And.intro eq3 (And.intro hg4 (?_))))
      refine And.intro (fun (hc7 : s0 = 0) => ?_) (fun (hc7 : ¬ (s0 = 0)) => ?_)
      · rw [if_pos hc7] at hf
        refine hG.1 3 54 kb_96_54 _ _ _ rfl ?_
        refine hG.2 55 _ [] _ _ _ rfl ?_
        exact hj_55 _ _ hf
      · rw [if_neg hc7] at hf
        refine hG.2 55 _ [] _ _ _ rfl ?_
        exact hj_55 _ _ hf
  unfold f_96 at hf
  refine hG.1 0 0 kb_96_0 _ _ _ rfl ?_
  obtain ⟨hg1, hf⟩ := pb_gd hf
  refine And.intro hg1 (?_)
  refine And.intro (fun (hc10 : ¬ v1 = ((pb_S4.getD (1 : Int32).toNatClampNeg 0) + 3)) => ?_) (fun (hc10 : ¬ (¬ v1 = ((pb_S4.getD (1 : Int32).toNatClampNeg 0) + 3))) => ?_)
  · rw [if_pos hc10] at hf
    refine hG.1 1 20 kb_96_20 _ _ _ rfl ?_
    exact hj_21 _ _ _ _ hf
  · rw [if_neg hc10] at hf
    refine And.intro (fun (hc9 : ¬ v2 = 2) => ?_) (fun (hc9 : ¬ (¬ v2 = 2)) => ?_)
    · rw [if_pos hc9] at hf
      refine hG.1 1 20 kb_96_20 _ _ _ rfl ?_
      exact hj_21 _ _ _ _ hf
    · rw [if_neg hc9] at hf
      exact hj_21 _ _ _ _ hf
/-- Reader.toldOfMissing -/
def f_98 (h : pb_HP) (v0 : Nat) : Option (Int32) :=
  if pb_is h v0 6 then ((pb_R h v0 0).bind fun q2 => (if pb_is h q2 0 then (if (pb_I h q2 0) < (pb_I h v0 10) then (some 1) else (if (pb_I h v0 11) ≤ (pb_I h q2 1) then (some 0) else (some 1))) else none)) else none
set_option maxRecDepth 4000 in
theorem l_98 {xs : List Int32} {d : Nat} {h : pb_HP} {v0 : Nat} {r : Int32} (hf : f_98 h v0 = some r) : pb_AR xs (d + 1) 98 h [.ref v0] (some (.int r)) h := by
  intro G hG
  have hc_ : pb_CODE 98 = kc_98 := rfl
  rw [hc_] at hG
  unfold f_98 at hf
  refine hG.1 0 0 kb_98_0 _ _ _ rfl ?_
  obtain ⟨hg1, hf⟩ := pb_gd hf
  obtain ⟨q2, eq2, hf⟩ := Option.bind_eq_some_iff.mp hf
  obtain ⟨hg3, hf⟩ := pb_gd hf
  refine And.intro hg1 (And.intro hg1 (Exists.intro q2 (And.intro eq2 (And.intro hg3 (?_)))))
  refine And.intro (fun (hc5 : (pb_I h q2 0) < (pb_I h v0 10)) => ?_) (fun (hc5 : ¬ ((pb_I h q2 0) < (pb_I h v0 10))) => ?_)
  · rw [if_pos hc5] at hf
    refine hG.1 1 28 kb_98_28 _ _ _ rfl ?_
    refine hG.1 3 33 kb_98_33 _ _ _ rfl ?_
    cases hf
    exact And.intro (fun _ => Or.inr rfl) (And.intro rfl rfl)
  · rw [if_neg hc5] at hf
    refine And.intro hg1 (And.intro hg1 (Exists.intro q2 (And.intro eq2 (And.intro hg3 (?_)))))
    refine And.intro (fun (hc4 : (pb_I h v0 11) ≤ (pb_I h q2 1)) => ?_) (fun (hc4 : ¬ ((pb_I h v0 11) ≤ (pb_I h q2 1))) => ?_)
    · rw [if_pos hc4] at hf
      refine hG.1 2 32 kb_98_32 _ _ _ rfl ?_
      refine hG.1 3 33 kb_98_33 _ _ _ rfl ?_
      cases hf
      exact And.intro (fun _ => Or.inl rfl) (And.intro rfl rfl)
    · rw [if_neg hc4] at hf
      refine hG.1 1 28 kb_98_28 _ _ _ rfl ?_
      refine hG.1 3 33 kb_98_33 _ _ _ rfl ?_
      cases hf
      exact And.intro (fun _ => Or.inr rfl) (And.intro rfl rfl)
def f_100_3s (N : Nat) (v0 : Nat) (v1 : Int32) (s : Int32 × pb_HP) : Option ((Int32 × pb_HP) ⊕ (pb_HP)) :=
  if s.1 < 0 then (some (.inr s.2)) else (if pb_is s.2 v0 7 then (if 600 ≤ (pb_I s.2 v0 5) then (some (.inr s.2)) else ((pb_R s.2 v0 4).bind fun q2 => (if pb_ar s.2 q2 13 (pb_I s.2 v0 5) then (pb_hb (pb_pI (pb_pI s.2 q2 (pb_I s.2 v0 5).toNatClampNeg (Int32.toInt8 ((Int32.toInt8 ((v1.toUInt32 >>> (Int32.toUInt32 s.1 &&& Int32.toUInt32 31)).toInt32)).toInt32)).toInt32) v0 5 ((pb_I (pb_pI s.2 q2 (pb_I s.2 v0 5).toNatClampNeg (Int32.toInt8 ((Int32.toInt8 ((v1.toUInt32 >>> (Int32.toUInt32 s.1 &&& Int32.toUInt32 31)).toInt32)).toInt32)).toInt32) v0 5) + 1)) fun h4 => (some (.inl ((s.1 + (-8), h4))))) else none))) else none)
/-- Told.append -/
def f_100 (N : Nat) (h : pb_HP) (v0 : Nat) (v1 : Int32) : Option (pb_HP) :=
  (pb_wl (f_100_3s N v0 v1) N ((24, h))).bind fun e10 => (some e10)
set_option maxRecDepth 4000 in
theorem l_100 {xs : List Int32} {d : Nat} {N : Nat} {h : pb_HP} {v0 : Nat} {v1 : Int32} {hE : pb_HP} (hf : f_100 N h v0 v1 = some hE) : pb_AR xs (d + 1) 100 h [.ref v0, .int v1] none hE := by
  intro G hG
  have hc_ : pb_CODE 100 = kc_100 := rfl
  rw [hc_] at hG
  have hl_3 : ∀ (v0 : Nat) (v1 : Int32) (n_ : Nat) (s : Int32 × pb_HP) (e : pb_HP), pb_wl (f_100_3s N v0 v1) n_ s = some e → G 46 [] [] e → G 3 [(0, .ref v0), (1, .int v1), (2, .int s.1)] [] s.2 := by
    intro v0 v1
    refine pb_wl_ind (I := fun (s : Int32 × pb_HP) => G 3 [(0, .ref v0), (1, .int v1), (2, .int s.1)] [] s.2) (K := fun (e : pb_HP) => G 46 [] [] e) (fun s x hf hk => ?_)
    unfold f_100_3s at hf
    refine hG.1 1 3 kb_100_3 _ _ _ rfl ?_
    refine And.intro (fun (hc9 : s.1 < 0) => ?_) (fun (hc9 : ¬ (s.1 < 0)) => ?_)
    · rw [if_pos hc9] at hf
      cases hf
      exact hG.2 46 _ [] _ _ _ rfl hk
    · rw [if_neg hc9] at hf
      obtain ⟨hg1, hf⟩ := pb_gd hf
      refine And.intro hg1 (?_)
      refine And.intro (fun (hc8 : 600 ≤ (pb_I s.2 v0 5)) => ?_) (fun (hc8 : ¬ (600 ≤ (pb_I s.2 v0 5))) => ?_)
      · rw [if_pos hc8] at hf
        cases hf
        exact hG.2 46 _ [] _ _ _ rfl hk
      · rw [if_neg hc8] at hf
        obtain ⟨q2, eq2, hf⟩ := Option.bind_eq_some_iff.mp hf
        obtain ⟨hg3, hf⟩ := pb_gd hf
        refine And.intro hg1 (Exists.intro q2 (And.intro eq2 (And.intro hg1 (And.intro hg3 (And.intro hg1 (And.intro hg1 (?_)))))))
        refine pb_hset (E := pb_pI (pb_pI s.2 q2 (pb_I s.2 v0 5).toNatClampNeg (Int32.toInt8 ((Int32.toInt8 ((v1.toUInt32 >>> (Int32.toUInt32 s.1 &&& Int32.toUInt32 31)).toInt32)).toInt32)).toInt32) v0 5 ((pb_I (pb_pI s.2 q2 (pb_I s.2 v0 5).toNatClampNeg (Int32.toInt8 ((Int32.toInt8 ((v1.toUInt32 >>> (Int32.toUInt32 s.1 &&& Int32.toUInt32 31)).toInt32)).toInt32)).toInt32) v0 5) + 1)) rfl (fun h4 eh4 => ?_)
        have hf := pb_hbd hf eh4
        have hg5 : pb_is h4 v0 7 := pb_isx eh4 hg1
        have hg6 : pb_ar h4 q2 13 (pb_I s.2 v0 5) := pb_arx eh4 hg3
        have eq7 : pb_R h4 v0 4 = some q2 := pb_Rx eh4 eq2
        cases hf
        exact hk
  unfold f_100 at hf
  refine hG.1 0 0 kb_100_0 _ _ _ rfl ?_
  obtain ⟨e10, he_e10, hf⟩ := Option.bind_eq_some_iff.mp hf
  refine hl_3 _ _ _ _ _ he_e10 ?_
  refine hG.1 2 46 kb_100_46 _ _ _ rfl ?_
  cases hf
  exact And.intro rfl rfl
/-- Told.has -/
def f_103 (h : pb_HP) (v0 : Nat) (v1 : Int32) (v2 : Int32) : Option (Int32) :=
  if v2 < 0 then (some 0) else (if pb_is h v0 7 then ((pb_R h v0 3).bind fun q2 => (if pb_ar h q2 12 v1 then (if (pb_I h q2 v1.toNatClampNeg) ≤ v2 then (some 0) else (some 1)) else none)) else none)
set_option maxRecDepth 4000 in
theorem l_103 {xs : List Int32} {d : Nat} {h : pb_HP} {v0 : Nat} {v1 : Int32} {v2 : Int32} {r : Int32} (hf : f_103 h v0 v1 v2 = some r) : pb_AR xs (d + 1) 103 h [.ref v0, .int v1, .int v2] (some (.int r)) h := by
  intro G hG
  have hc_ : pb_CODE 103 = kc_103 := rfl
  rw [hc_] at hG
  unfold f_103 at hf
  refine hG.1 0 0 kb_103_0 _ _ _ rfl ?_
  refine And.intro (fun (hc5 : v2 < 0) => ?_) (fun (hc5 : ¬ (v2 < 0)) => ?_)
  · rw [if_pos hc5] at hf
    refine hG.1 1 18 kb_103_18 _ _ _ rfl ?_
    refine hG.1 2 19 kb_103_19 _ _ _ rfl ?_
    cases hf
    exact And.intro (fun _ => Or.inl rfl) (And.intro rfl rfl)
  · rw [if_neg hc5] at hf
    obtain ⟨hg1, hf⟩ := pb_gd hf
    obtain ⟨q2, eq2, hf⟩ := Option.bind_eq_some_iff.mp hf
    obtain ⟨hg3, hf⟩ := pb_gd hf
    refine And.intro hg1 (Exists.intro q2 (And.intro eq2 (And.intro hg3 (?_))))
    refine And.intro (fun (hc4 : (pb_I h q2 v1.toNatClampNeg) ≤ v2) => ?_) (fun (hc4 : ¬ ((pb_I h q2 v1.toNatClampNeg) ≤ v2)) => ?_)
    · rw [if_pos hc4] at hf
      refine hG.1 1 18 kb_103_18 _ _ _ rfl ?_
      refine hG.1 2 19 kb_103_19 _ _ _ rfl ?_
      cases hf
      exact And.intro (fun _ => Or.inl rfl) (And.intro rfl rfl)
    · rw [if_neg hc4] at hf
      refine hG.1 2 19 kb_103_19 _ _ _ rfl ?_
      cases hf
      exact And.intro (fun _ => Or.inr rfl) (And.intro rfl rfl)
/-- Trial.canShow -/
def f_116 (h : pb_HP) (v0 : Nat) (v1 : Int32) (v2 : Int32) : Option (Int32) :=
  if v2 = 6 then (some 1) else (if pb_is h v0 8 then ((pb_R h v0 0).bind fun q2 => (if pb_is h q2 0 then ((pb_R h q2 3).bind fun q4 => (if pb_ar h q4 12 v1 then (if ¬ (((pb_I h q4 v1.toNatClampNeg) >>> (v2 &&& 31)) &&& 1) = 0 then (some 0) else (some 1)) else none)) else none)) else none)
set_option maxRecDepth 4000 in
theorem l_116 {xs : List Int32} {d : Nat} {h : pb_HP} {v0 : Nat} {v1 : Int32} {v2 : Int32} {r : Int32} (hf : f_116 h v0 v1 v2 = some r) : pb_AR xs (d + 1) 116 h [.ref v0, .int v1, .int v2] (some (.int r)) h := by
  intro G hG
  have hc_ : pb_CODE 116 = kc_116 := rfl
  rw [hc_] at hG
  unfold f_116 at hf
  refine hG.1 0 0 kb_116_0 _ _ _ rfl ?_
  refine And.intro (fun (hc7 : v2 = 6) => ?_) (fun (hc7 : ¬ (v2 = 6)) => ?_)
  · rw [if_pos hc7] at hf
    refine hG.1 1 22 kb_116_22 _ _ _ rfl ?_
    refine hG.1 3 27 kb_116_27 _ _ _ rfl ?_
    cases hf
    exact And.intro (fun _ => Or.inr rfl) (And.intro rfl rfl)
  · rw [if_neg hc7] at hf
    obtain ⟨hg1, hf⟩ := pb_gd hf
    obtain ⟨q2, eq2, hf⟩ := Option.bind_eq_some_iff.mp hf
    obtain ⟨hg3, hf⟩ := pb_gd hf
    obtain ⟨q4, eq4, hf⟩ := Option.bind_eq_some_iff.mp hf
    obtain ⟨hg5, hf⟩ := pb_gd hf
    refine And.intro hg1 (Exists.intro q2 (And.intro eq2 (And.intro hg3 (Exists.intro q4 (And.intro eq4 (And.intro hg5 (?_)))))))
    refine And.intro (fun (hc6 : ¬ (((pb_I h q4 v1.toNatClampNeg) >>> (v2 &&& 31)) &&& 1) = 0) => ?_) (fun (hc6 : ¬ (¬ (((pb_I h q4 v1.toNatClampNeg) >>> (v2 &&& 31)) &&& 1) = 0)) => ?_)
    · rw [if_pos hc6] at hf
      refine hG.1 2 26 kb_116_26 _ _ _ rfl ?_
      refine hG.1 3 27 kb_116_27 _ _ _ rfl ?_
      cases hf
      exact And.intro (fun _ => Or.inl rfl) (And.intro rfl rfl)
    · rw [if_neg hc6] at hf
      refine hG.1 1 22 kb_116_22 _ _ _ rfl ?_
      refine hG.1 3 27 kb_116_27 _ _ _ rfl ?_
      cases hf
      exact And.intro (fun _ => Or.inr rfl) (And.intro rfl rfl)
def f_122_2s (N : Nat) (h : pb_HP) (v0 : Nat) (v1 : Nat) (v2 : Int32) (s : Int32) : Option ((Int32) ⊕ ((Int32) ⊕ (Unit))) :=
  if v2 ≤ s then (some (.inr (.inr (())))) else (if pb_is h v0 9 then ((pb_R h v0 0).bind fun q2 => (if pb_ar h q2 12 s then (if pb_ar h q2 12 v2 then (if ¬ (pb_I h q2 s.toNatClampNeg) = (pb_I h q2 v2.toNatClampNeg) then (some (.inl (s + 1))) else (if pb_is h v1 0 then ((pb_R h v1 6).bind fun q6 => (if pb_ar h q6 12 s then (if pb_ar h q6 12 v2 then (if ((pb_I h q6 s.toNatClampNeg) &&& (pb_I h q6 v2.toNatClampNeg)) = 0 then (some (.inl (s + 1))) else (some (.inr (.inl 0)))) else none) else none)) else none)) else none) else none)) else none)
/-- Wings.goesWithThoseAhead -/
def f_122 (N : Nat) (h : pb_HP) (v0 : Nat) (v1 : Nat) (v2 : Int32) : Option (Int32) :=
  (pb_wl (f_122_2s N h v0 v1 v2) N 0).bind fun e12 => (match e12 with | .inl q14 => some q14 | .inr x13 => some 1)
set_option maxRecDepth 4000 in
theorem l_122 {xs : List Int32} {d : Nat} {N : Nat} {h : pb_HP} {v0 : Nat} {v1 : Nat} {v2 : Int32} {r : Int32} (hf : f_122 N h v0 v1 v2 = some r) : pb_AR xs (d + 1) 122 h [.ref v0, .ref v1, .int v2] (some (.int r)) h := by
  intro G hG
  have hc_ : pb_CODE 122 = kc_122 := rfl
  rw [hc_] at hG
  have hl_2 : ∀ (v0 : Nat) (v1 : Nat) (v2 : Int32) (n_ : Nat) (s : Int32) (e : (Int32) ⊕ (Unit)), pb_wl (f_122_2s N h v0 v1 v2) n_ s = some e → pb_kk (fun (q_ : Int32) => q_ = r) (fun (x_ : Unit) => G 46 [] [] h) e → G 2 [(0, .ref v0), (1, .ref v1), (2, .int v2), (3, .int s)] [] h := by
    intro v0 v1 v2
    refine pb_wl_ind (I := fun (s : Int32) => G 2 [(0, .ref v0), (1, .ref v1), (2, .int v2), (3, .int s)] [] h) (K := fun (e : (Int32) ⊕ (Unit)) => pb_kk (fun (q_ : Int32) => q_ = r) (fun (x_ : Unit) => G 46 [] [] h) e) (fun s x hf hk => ?_)
    unfold f_122_2s at hf
    refine hG.1 1 2 kb_122_2 _ _ _ rfl ?_
    refine And.intro (fun (hc11 : v2 ≤ s) => ?_) (fun (hc11 : ¬ (v2 ≤ s)) => ?_)
    · rw [if_pos hc11] at hf
      cases hf
      exact hG.2 46 _ [] _ _ _ rfl hk
    · rw [if_neg hc11] at hf
      obtain ⟨hg1, hf⟩ := pb_gd hf
      obtain ⟨q2, eq2, hf⟩ := Option.bind_eq_some_iff.mp hf
      obtain ⟨hg3, hf⟩ := pb_gd hf
      obtain ⟨hg4, hf⟩ := pb_gd hf
      refine And.intro hg1 (Exists.intro q2 (And.intro eq2 (And.intro hg3 (And.intro hg1 (Exists.intro q2 (And.intro eq2 (And.intro hg4 (?_))))))))
      refine And.intro (fun (hc10 : ¬ (pb_I h q2 s.toNatClampNeg) = (pb_I h q2 v2.toNatClampNeg)) => ?_) (fun (hc10 : ¬ (¬ (pb_I h q2 s.toNatClampNeg) = (pb_I h q2 v2.toNatClampNeg))) => ?_)
      · rw [if_pos hc10] at hf
        refine hG.1 2 40 kb_122_40 _ _ _ rfl ?_
        cases hf
        exact hk
      · rw [if_neg hc10] at hf
        obtain ⟨hg5, hf⟩ := pb_gd hf
        obtain ⟨q6, eq6, hf⟩ := Option.bind_eq_some_iff.mp hf
        obtain ⟨hg7, hf⟩ := pb_gd hf
        obtain ⟨hg8, hf⟩ := pb_gd hf
        refine And.intro hg5 (Exists.intro q6 (And.intro eq6 (And.intro hg7 (And.intro hg5 (Exists.intro q6 (And.intro eq6 (And.intro hg8 (?_))))))))
        refine And.intro (fun (hc9 : ((pb_I h q6 s.toNatClampNeg) &&& (pb_I h q6 v2.toNatClampNeg)) = 0) => ?_) (fun (hc9 : ¬ (((pb_I h q6 s.toNatClampNeg) &&& (pb_I h q6 v2.toNatClampNeg)) = 0)) => ?_)
        · rw [if_pos hc9] at hf
          refine hG.1 2 40 kb_122_40 _ _ _ rfl ?_
          cases hf
          exact hk
        · rw [if_neg hc9] at hf
          cases hf
          cases hk
          exact And.intro (fun _ => Or.inl rfl) (And.intro rfl rfl)
  unfold f_122 at hf
  refine hG.1 0 0 kb_122_0 _ _ _ rfl ?_
  obtain ⟨e12, he_e12, hf⟩ := Option.bind_eq_some_iff.mp hf
  refine hl_2 _ _ _ _ _ _ he_e12 ?_
  cases e12 with
  | inl q14 =>
    exact Option.some.inj hf
  | inr x13 =>
    try dsimp only at hf
    refine hG.1 3 46 kb_122_46 _ _ _ rfl ?_
    cases hf
    exact And.intro (fun _ => Or.inr rfl) (And.intro rfl rfl)
/-- PointedBench.end -/
def f_125 (h : pb_HP) (v0 : Nat) (v1 : Int32) : Option (Int32 × pb_HP) :=
  if v1 < 0 then (some (((-1), h))) else (if pb_is h v0 10 then ((pb_R h v0 0).bind fun q2 => (if pb_is h q2 7 then (if v1 ≤ (pb_I h q2 5) then (some ((v1, pb_pI h q2 5 v1))) else (some (((-1), h)))) else none)) else none)
set_option maxRecDepth 4000 in
theorem l_125 {xs : List Int32} {d : Nat} {h : pb_HP} {v0 : Nat} {v1 : Int32} {r : Int32} {hE : pb_HP} (hf : f_125 h v0 v1 = some ((r, hE))) : pb_AR xs (d + 1) 125 h [.ref v0, .int v1] (some (.int r)) hE := by
  intro G hG
  have hc_ : pb_CODE 125 = kc_125 := rfl
  rw [hc_] at hG
  unfold f_125 at hf
  refine hG.1 0 0 kb_125_0 _ _ _ rfl ?_
  refine And.intro (fun (hc5 : v1 < 0) => ?_) (fun (hc5 : ¬ (v1 < 0)) => ?_)
  · rw [if_pos hc5] at hf
    refine hG.1 1 15 kb_125_15 _ _ _ rfl ?_
    cases hf
    exact And.intro (fun z_ => absurd z_ (by decide)) (And.intro rfl rfl)
  · rw [if_neg hc5] at hf
    obtain ⟨hg1, hf⟩ := pb_gd hf
    obtain ⟨q2, eq2, hf⟩ := Option.bind_eq_some_iff.mp hf
    obtain ⟨hg3, hf⟩ := pb_gd hf
    refine And.intro hg1 (Exists.intro q2 (And.intro eq2 (And.intro hg3 (?_))))
    refine And.intro (fun (hc4 : v1 ≤ (pb_I h q2 5)) => ?_) (fun (hc4 : ¬ (v1 ≤ (pb_I h q2 5))) => ?_)
    · rw [if_pos hc4] at hf
      refine hG.1 2 17 kb_125_17 _ _ _ rfl ?_
      refine And.intro hg1 (Exists.intro q2 (And.intro eq2 (And.intro hg3 (?_))))
      cases hf
      exact And.intro (fun z_ => absurd z_ (by decide)) (And.intro rfl rfl)
    · rw [if_neg hc4] at hf
      refine hG.1 1 15 kb_125_15 _ _ _ rfl ?_
      cases hf
      exact And.intro (fun z_ => absurd z_ (by decide)) (And.intro rfl rfl)
/-- PointedBench.fault -/
def f_127 (h : pb_HP) (v0 : Nat) (v1 : Int32) : Option (Int32) :=
  if ¬ v1 = 0 then (if ¬ v1 = 1 then (some ((-1))) else (if pb_is h v0 10 then ((pb_R h v0 0).bind fun q2 => (if pb_is h q2 7 then (some (pb_I h q2 7)) else none)) else none)) else (if pb_is h v0 10 then ((pb_R h v0 0).bind fun q6 => (if pb_is h q6 7 then (some (pb_I h q6 6)) else none)) else none)
set_option maxRecDepth 4000 in
theorem l_127 {xs : List Int32} {d : Nat} {h : pb_HP} {v0 : Nat} {v1 : Int32} {r : Int32} (hf : f_127 h v0 v1 = some r) : pb_AR xs (d + 1) 127 h [.ref v0, .int v1] (some (.int r)) h := by
  intro G hG
  have hc_ : pb_CODE 127 = kc_127 := rfl
  rw [hc_] at hG
  unfold f_127 at hf
  refine hG.1 0 0 kb_127_0 _ _ _ rfl ?_
  refine And.intro (fun (hc8 : ¬ v1 = 0) => ?_) (fun (hc8 : ¬ (¬ v1 = 0)) => ?_)
  · rw [if_pos hc8] at hf
    refine hG.1 1 12 kb_127_12 _ _ _ rfl ?_
    refine And.intro (fun (hc4 : ¬ v1 = 1) => ?_) (fun (hc4 : ¬ (¬ v1 = 1)) => ?_)
    · rw [if_pos hc4] at hf
      refine hG.1 2 27 kb_127_27 _ _ _ rfl ?_
      refine hG.1 3 28 kb_127_28 _ _ _ rfl ?_
      cases hf
      exact And.intro (fun z_ => absurd z_ (by decide)) (And.intro rfl rfl)
    · rw [if_neg hc4] at hf
      obtain ⟨hg1, hf⟩ := pb_gd hf
      obtain ⟨q2, eq2, hf⟩ := Option.bind_eq_some_iff.mp hf
      obtain ⟨hg3, hf⟩ := pb_gd hf
      refine And.intro hg1 (Exists.intro q2 (And.intro eq2 (And.intro hg3 (?_))))
      refine hG.1 3 28 kb_127_28 _ _ _ rfl ?_
      cases hf
      exact And.intro (fun z_ => absurd z_ (by decide)) (And.intro rfl rfl)
  · rw [if_neg hc8] at hf
    obtain ⟨hg5, hf⟩ := pb_gd hf
    obtain ⟨q6, eq6, hf⟩ := Option.bind_eq_some_iff.mp hf
    obtain ⟨hg7, hf⟩ := pb_gd hf
    refine And.intro hg5 (Exists.intro q6 (And.intro eq6 (And.intro hg7 (?_))))
    cases hf
    exact And.intro (fun z_ => absurd z_ (by decide)) (And.intro rfl rfl)
/-- PointedBench.count -/
def f_161 (h : pb_HP) (v0 : Nat) (v1 : Int32) : Option (Int32) :=
  if v1 < 0 then (some ((-2))) else (if v1 < 3 then (if pb_is h v0 10 then ((pb_R h v0 0).bind fun q2 => (if pb_is h q2 7 then ((pb_R h q2 3).bind fun q4 => (if pb_ar h q4 12 v1 then (some (pb_I h q4 v1.toNatClampNeg)) else none)) else none)) else none) else (some ((-2))))
set_option maxRecDepth 4000 in
theorem l_161 {xs : List Int32} {d : Nat} {h : pb_HP} {v0 : Nat} {v1 : Int32} {r : Int32} (hf : f_161 h v0 v1 = some r) : pb_AR xs (d + 1) 161 h [.ref v0, .int v1] (some (.int r)) h := by
  intro G hG
  have hc_ : pb_CODE 161 = kc_161 := rfl
  rw [hc_] at hG
  unfold f_161 at hf
  refine hG.1 0 0 kb_161_0 _ _ _ rfl ?_
  refine And.intro (fun (hc7 : v1 < 0) => ?_) (fun (hc7 : ¬ (v1 < 0)) => ?_)
  · rw [if_pos hc7] at hf
    refine hG.1 1 9 kb_161_9 _ _ _ rfl ?_
    refine hG.1 3 23 kb_161_23 _ _ _ rfl ?_
    cases hf
    exact And.intro (fun z_ => absurd z_ (by decide)) (And.intro rfl rfl)
  · rw [if_neg hc7] at hf
    refine And.intro (fun (hc6 : v1 < 3) => ?_) (fun (hc6 : ¬ (v1 < 3)) => ?_)
    · rw [if_pos hc6] at hf
      refine hG.1 2 14 kb_161_14 _ _ _ rfl ?_
      obtain ⟨hg1, hf⟩ := pb_gd hf
      obtain ⟨q2, eq2, hf⟩ := Option.bind_eq_some_iff.mp hf
      obtain ⟨hg3, hf⟩ := pb_gd hf
      obtain ⟨q4, eq4, hf⟩ := Option.bind_eq_some_iff.mp hf
      obtain ⟨hg5, hf⟩ := pb_gd hf
      refine And.intro hg1 (Exists.intro q2 (And.intro eq2 (And.intro hg3 (Exists.intro q4 (And.intro eq4 (And.intro hg5 (?_)))))))
      refine hG.1 3 23 kb_161_23 _ _ _ rfl ?_
      cases hf
      exact And.intro (fun z_ => absurd z_ (by decide)) (And.intro rfl rfl)
    · rw [if_neg hc6] at hf
      refine hG.1 1 9 kb_161_9 _ _ _ rfl ?_
      refine hG.1 3 23 kb_161_23 _ _ _ rfl ?_
      cases hf
      exact And.intro (fun z_ => absurd z_ (by decide)) (And.intro rfl rfl)
def f_165_19s (N : Nat) (v0 : Int64) (v2 : Int64) (v4 : Int32) (s : Int64 × Int64 × Int32) : Option ((Int64 × Int64 × Int32) ⊕ (Int64)) :=
  if 100 ≤ s.2.2 then (some (.inr s.1)) else (if (lg_cmp s.2.1 0) = 0 then (some (.inr s.1)) else (if ¬ s.2.1 = 0 then (some (.inl ((s.2.1, s.1 - s.1 / s.2.1 * s.2.1, s.2.2 + 1)))) else none))
def f_165_54 (N : Nat) (v0 : Int64) (v2 : Int64) (v4 : Int32) (v5 : Int64) : Option (Int64) :=
  if ¬ (lg_cmp v5 0) = 0 then (if v4 = 0 then (if ¬ v5 = 0 then (some (v0 / v5)) else none) else (if ¬ v5 = 0 then (some (v2 / v5)) else none)) else (some ((-1)))
/-- PointedBench.leastTerms -/
def f_165 (N : Nat) (v0 : Int64) (v2 : Int64) (v4 : Int32) : Option (Int64) :=
  if 0 < (lg_cmp v2 0) then ((pb_wl (f_165_19s N v0 v2 v4) N ((v2, v0, 0))).bind fun e4 => (f_165_54 N v0 v2 v4 e4)) else (some ((-1)))
set_option maxRecDepth 4000 in
theorem l_165 {xs : List Int32} {d : Nat} {N : Nat} {h : pb_HP} {v0 : Int64} {v2 : Int64} {v4 : Int32} {r : Int64} (hf : f_165 N v0 v2 v4 = some r) : pb_AR xs (d + 1) 165 h [.long v0, .long v2, .int v4] (some (.long r)) h := by
  intro G hG
  have hc_ : pb_CODE 165 = kc_165 := rfl
  rw [hc_] at hG
  have hl_19 : ∀ (v0 : Int64) (v2 : Int64) (v4 : Int32) (n_ : Nat) (s : Int64 × Int64 × Int32) (e : Int64), pb_wl (f_165_19s N v0 v2 v4) n_ s = some e → G 54 [(0, .long v0), (2, .long v2), (4, .int v4), (5, .long e)] [] h → G 19 [(0, .long v0), (2, .long v2), (4, .int v4), (5, .long s.1), (7, .long s.2.1), (9, .int s.2.2)] [] h := by
    intro v0 v2 v4
    refine pb_wl_ind (I := fun (s : Int64 × Int64 × Int32) => G 19 [(0, .long v0), (2, .long v2), (4, .int v4), (5, .long s.1), (7, .long s.2.1), (9, .int s.2.2)] [] h) (K := fun (e : Int64) => G 54 [(0, .long v0), (2, .long v2), (4, .int v4), (5, .long e)] [] h) (fun s x hf hk => ?_)
    unfold f_165_19s at hf
    refine hG.1 2 19 kb_165_19 _ _ _ rfl ?_
    refine And.intro (fun (hc3 : 100 ≤ s.2.2) => ?_) (fun (hc3 : ¬ (100 ≤ s.2.2)) => ?_)
    · rw [if_pos hc3] at hf
      cases hf
      exact hG.2 54 _ [0, 1, 2, 3] _ _ _ rfl hk
    · rw [if_neg hc3] at hf
      refine And.intro (fun (hc2 : (lg_cmp s.2.1 0) = 0) => ?_) (fun (hc2 : ¬ ((lg_cmp s.2.1 0) = 0)) => ?_)
      · rw [if_pos hc2] at hf
        cases hf
        exact hG.2 54 _ [0, 1, 2, 3] _ _ _ rfl hk
      · rw [if_neg hc2] at hf
        obtain ⟨hg1, hf⟩ := pb_gd hf
        refine And.intro hg1 (?_)
        cases hf
        exact hG.2 19 _ [0, 1, 2, 3, 4, 5] _ _ _ rfl hk
  have hj_54 : ∀ (v0 : Int64) (v2 : Int64) (v4 : Int32) (v5 : Int64), f_165_54 N v0 v2 v4 v5 = some r → G 54 [(0, .long v0), (2, .long v2), (4, .int v4), (5, .long v5)] [] h := by
    intro v0 v2 v4 v5 hf
    unfold f_165_54 at hf
    refine hG.1 3 54 kb_165_54 _ _ _ rfl ?_
    refine And.intro (fun (hc8 : ¬ (lg_cmp v5 0) = 0) => ?_) (fun (hc8 : ¬ (¬ (lg_cmp v5 0) = 0)) => ?_)
    · rw [if_pos hc8] at hf
      refine hG.1 4 67 kb_165_67 _ _ _ rfl ?_
      refine And.intro (fun (hc7 : v4 = 0) => ?_) (fun (hc7 : ¬ (v4 = 0)) => ?_)
      · rw [if_pos hc7] at hf
        refine hG.1 5 76 kb_165_76 _ _ _ rfl ?_
        refine hG.1 6 77 kb_165_77 _ _ _ rfl ?_
        obtain ⟨hg5, hf⟩ := pb_gd hf
        refine And.intro hg5 (?_)
        refine hG.1 7 80 kb_165_80 _ _ _ rfl ?_
        cases hf
        exact And.intro rfl rfl
      · rw [if_neg hc7] at hf
        refine hG.1 6 77 kb_165_77 _ _ _ rfl ?_
        obtain ⟨hg6, hf⟩ := pb_gd hf
        refine And.intro hg6 (?_)
        refine hG.1 7 80 kb_165_80 _ _ _ rfl ?_
        cases hf
        exact And.intro rfl rfl
    · rw [if_neg hc8] at hf
      refine hG.1 7 80 kb_165_80 _ _ _ rfl ?_
      cases hf
      exact And.intro rfl rfl
  unfold f_165 at hf
  refine hG.1 0 0 kb_165_0 _ _ _ rfl ?_
  refine And.intro (fun (hc9 : 0 < (lg_cmp v2 0)) => ?_) (fun (hc9 : ¬ (0 < (lg_cmp v2 0))) => ?_)
  · rw [if_pos hc9] at hf
    refine hG.1 1 10 kb_165_10 _ _ _ rfl ?_
    obtain ⟨e4, he_e4, hf⟩ := Option.bind_eq_some_iff.mp hf
    refine hl_19 _ _ _ _ _ _ he_e4 ?_
    exact hj_54 _ _ _ _ hf
  · rw [if_neg hc9] at hf
    cases hf
    exact And.intro rfl rfl
def f_166_5s (N : Nat) (v0 : Int64) (v2 : Int32) (s : Int64 × Int32) : Option ((Int64 × Int32) ⊕ (Int64)) :=
  if v2 ≤ s.2 then (some (.inr s.1)) else (some (.inl ((s.1 * v0, s.2 + 1))))
/-- PointedBench.raised -/
def f_166 (N : Nat) (v0 : Int64) (v2 : Int32) : Option (Int64) :=
  (pb_wl (f_166_5s N v0 v2) N ((1, 0))).bind fun e2 => (some e2)
set_option maxRecDepth 4000 in
theorem l_166 {xs : List Int32} {d : Nat} {N : Nat} {h : pb_HP} {v0 : Int64} {v2 : Int32} {r : Int64} (hf : f_166 N v0 v2 = some r) : pb_AR xs (d + 1) 166 h [.long v0, .int v2] (some (.long r)) h := by
  intro G hG
  have hc_ : pb_CODE 166 = kc_166 := rfl
  rw [hc_] at hG
  have hl_5 : ∀ (v0 : Int64) (v2 : Int32) (n_ : Nat) (s : Int64 × Int32) (e : Int64), pb_wl (f_166_5s N v0 v2) n_ s = some e → G 21 [(3, .long e)] [] h → G 5 [(0, .long v0), (2, .int v2), (3, .long s.1), (5, .int s.2)] [] h := by
    intro v0 v2
    refine pb_wl_ind (I := fun (s : Int64 × Int32) => G 5 [(0, .long v0), (2, .int v2), (3, .long s.1), (5, .int s.2)] [] h) (K := fun (e : Int64) => G 21 [(3, .long e)] [] h) (fun s x hf hk => ?_)
    unfold f_166_5s at hf
    refine hG.1 1 5 kb_166_5 _ _ _ rfl ?_
    refine And.intro (fun (hc1 : v2 ≤ s.2) => ?_) (fun (hc1 : ¬ (v2 ≤ s.2)) => ?_)
    · rw [if_pos hc1] at hf
      cases hf
      exact hG.2 21 _ [2] _ _ _ rfl hk
    · rw [if_neg hc1] at hf
      cases hf
      exact hk
  unfold f_166 at hf
  refine hG.1 0 0 kb_166_0 _ _ _ rfl ?_
  obtain ⟨e2, he_e2, hf⟩ := Option.bind_eq_some_iff.mp hf
  refine hl_5 _ _ _ _ _ he_e2 ?_
  refine hG.1 2 21 kb_166_21 _ _ _ rfl ?_
  cases hf
  exact And.intro rfl rfl
/-- PointedBenchModel.in -/
def f_168 (v0 : Int32) (v1 : Int32) (v2 : Int32) : Option (Int32) :=
  if v0 < v1 then (some 0) else (if v2 < v0 then (some 0) else (some 1))
set_option maxRecDepth 4000 in
theorem l_168 {xs : List Int32} {d : Nat} {h : pb_HP} {v0 : Int32} {v1 : Int32} {v2 : Int32} {r : Int32} (hf : f_168 v0 v1 v2 = some r) : pb_AR xs (d + 1) 168 h [.int v0, .int v1, .int v2] (some (.int r)) h := by
  intro G hG
  have hc_ : pb_CODE 168 = kc_168 := rfl
  rw [hc_] at hG
  unfold f_168 at hf
  refine hG.1 0 0 kb_168_0 _ _ _ rfl ?_
  refine And.intro (fun (hc2 : v0 < v1) => ?_) (fun (hc2 : ¬ (v0 < v1)) => ?_)
  · rw [if_pos hc2] at hf
    refine hG.1 1 14 kb_168_14 _ _ _ rfl ?_
    refine hG.1 2 15 kb_168_15 _ _ _ rfl ?_
    cases hf
    exact And.intro (fun _ => Or.inl rfl) (And.intro rfl rfl)
  · rw [if_neg hc2] at hf
    refine And.intro (fun (hc1 : v2 < v0) => ?_) (fun (hc1 : ¬ (v2 < v0)) => ?_)
    · rw [if_pos hc1] at hf
      refine hG.1 1 14 kb_168_14 _ _ _ rfl ?_
      refine hG.1 2 15 kb_168_15 _ _ _ rfl ?_
      cases hf
      exact And.intro (fun _ => Or.inl rfl) (And.intro rfl rfl)
    · rw [if_neg hc1] at hf
      refine hG.1 2 15 kb_168_15 _ _ _ rfl ?_
      cases hf
      exact And.intro (fun _ => Or.inr rfl) (And.intro rfl rfl)
/-- PointedBenchModel.has -/
def f_169 (v0 : Int32) (v1 : Int32) : Option (Int32) :=
  if ¬ ((v0 >>> (v1 &&& 31)) &&& 1) = 1 then (some 0) else (some 1)
set_option maxRecDepth 4000 in
theorem l_169 {xs : List Int32} {d : Nat} {h : pb_HP} {v0 : Int32} {v1 : Int32} {r : Int32} (hf : f_169 v0 v1 = some r) : pb_AR xs (d + 1) 169 h [.int v0, .int v1] (some (.int r)) h := by
  intro G hG
  have hc_ : pb_CODE 169 = kc_169 := rfl
  rw [hc_] at hG
  unfold f_169 at hf
  refine hG.1 0 0 kb_169_0 _ _ _ rfl ?_
  refine And.intro (fun (hc1 : ¬ ((v0 >>> (v1 &&& 31)) &&& 1) = 1) => ?_) (fun (hc1 : ¬ (¬ ((v0 >>> (v1 &&& 31)) &&& 1) = 1)) => ?_)
  · rw [if_pos hc1] at hf
    refine hG.1 1 13 kb_169_13 _ _ _ rfl ?_
    refine hG.1 2 14 kb_169_14 _ _ _ rfl ?_
    cases hf
    exact And.intro (fun _ => Or.inl rfl) (And.intro rfl rfl)
  · rw [if_neg hc1] at hf
    refine hG.1 2 14 kb_169_14 _ _ _ rfl ?_
    cases hf
    exact And.intro (fun _ => Or.inr rfl) (And.intro rfl rfl)
/-- PointedBenchModel.greater -/
def f_170 (v0 : Int32) (v1 : Int32) : Option (Int32) :=
  if v0 ≤ v1 then (some v1) else (some v0)
set_option maxRecDepth 4000 in
theorem l_170 {xs : List Int32} {d : Nat} {h : pb_HP} {v0 : Int32} {v1 : Int32} {r : Int32} (hf : f_170 v0 v1 = some r) : pb_AR xs (d + 1) 170 h [.int v0, .int v1] (some (.int r)) h := by
  intro G hG
  have hc_ : pb_CODE 170 = kc_170 := rfl
  rw [hc_] at hG
  unfold f_170 at hf
  refine hG.1 0 0 kb_170_0 _ _ _ rfl ?_
  refine And.intro (fun (hc1 : v0 ≤ v1) => ?_) (fun (hc1 : ¬ (v0 ≤ v1)) => ?_)
  · rw [if_pos hc1] at hf
    refine hG.1 1 9 kb_170_9 _ _ _ rfl ?_
    refine hG.1 2 10 kb_170_10 _ _ _ rfl ?_
    cases hf
    exact And.intro (fun z_ => absurd z_ (by decide)) (And.intro rfl rfl)
  · rw [if_neg hc1] at hf
    refine hG.1 2 10 kb_170_10 _ _ _ rfl ?_
    cases hf
    exact And.intro (fun z_ => absurd z_ (by decide)) (And.intro rfl rfl)
/-- PointedBenchModel.lesser -/
def f_171 (v0 : Int32) (v1 : Int32) : Option (Int32) :=
  if v1 ≤ v0 then (some v1) else (some v0)
set_option maxRecDepth 4000 in
theorem l_171 {xs : List Int32} {d : Nat} {h : pb_HP} {v0 : Int32} {v1 : Int32} {r : Int32} (hf : f_171 v0 v1 = some r) : pb_AR xs (d + 1) 171 h [.int v0, .int v1] (some (.int r)) h := by
  intro G hG
  have hc_ : pb_CODE 171 = kc_171 := rfl
  rw [hc_] at hG
  unfold f_171 at hf
  refine hG.1 0 0 kb_171_0 _ _ _ rfl ?_
  refine And.intro (fun (hc1 : v1 ≤ v0) => ?_) (fun (hc1 : ¬ (v1 ≤ v0)) => ?_)
  · rw [if_pos hc1] at hf
    refine hG.1 1 9 kb_171_9 _ _ _ rfl ?_
    refine hG.1 2 10 kb_171_10 _ _ _ rfl ?_
    cases hf
    exact And.intro (fun z_ => absurd z_ (by decide)) (And.intro rfl rfl)
  · rw [if_neg hc1] at hf
    refine hG.1 2 10 kb_171_10 _ _ _ rfl ?_
    cases hf
    exact And.intro (fun z_ => absurd z_ (by decide)) (And.intro rfl rfl)
def f_173_3s (N : Nat) (v0 : Nat) (v1 : Int32) (v2 : Int32) (v3 : Int32) (s : Int32 × pb_HP) : Option ((Int32 × pb_HP) ⊕ (pb_HP)) :=
  if v1 ≤ s.1 then (some (.inr s.2)) else (if pb_ar s.2 v0 12 ((v1 * v2) + s.1) then (if pb_ar s.2 v0 12 ((v1 * v3) + s.1) then (some (.inl ((s.1 + 1, pb_pI s.2 v0 ((v1 * v3) + s.1).toNatClampNeg (pb_I s.2 v0 ((v1 * v2) + s.1).toNatClampNeg))))) else none) else none)
/-- PointedBenchModel.copyRow -/
def f_173 (N : Nat) (h : pb_HP) (v0 : Nat) (v1 : Int32) (v2 : Int32) (v3 : Int32) : Option (pb_HP) :=
  (pb_wl (f_173_3s N v0 v1 v2 v3) N ((0, h))).bind fun e4 => (some e4)
set_option maxRecDepth 4000 in
theorem l_173 {xs : List Int32} {d : Nat} {N : Nat} {h : pb_HP} {v0 : Nat} {v1 : Int32} {v2 : Int32} {v3 : Int32} {hE : pb_HP} (hf : f_173 N h v0 v1 v2 v3 = some hE) : pb_AR xs (d + 1) 173 h [.ref v0, .int v1, .int v2, .int v3] none hE := by
  intro G hG
  have hc_ : pb_CODE 173 = kc_173 := rfl
  rw [hc_] at hG
  have hl_3 : ∀ (v0 : Nat) (v1 : Int32) (v2 : Int32) (v3 : Int32) (n_ : Nat) (s : Int32 × pb_HP) (e : pb_HP), pb_wl (f_173_3s N v0 v1 v2 v3) n_ s = some e → G 31 [] [] e → G 3 [(0, .ref v0), (1, .int v1), (2, .int v2), (3, .int v3), (4, .int s.1)] [] s.2 := by
    intro v0 v1 v2 v3
    refine pb_wl_ind (I := fun (s : Int32 × pb_HP) => G 3 [(0, .ref v0), (1, .int v1), (2, .int v2), (3, .int v3), (4, .int s.1)] [] s.2) (K := fun (e : pb_HP) => G 31 [] [] e) (fun s x hf hk => ?_)
    unfold f_173_3s at hf
    refine hG.1 1 3 kb_173_3 _ _ _ rfl ?_
    refine And.intro (fun (hc3 : v1 ≤ s.1) => ?_) (fun (hc3 : ¬ (v1 ≤ s.1)) => ?_)
    · rw [if_pos hc3] at hf
      cases hf
      exact hG.2 31 _ [] _ _ _ rfl hk
    · rw [if_neg hc3] at hf
      obtain ⟨hg1, hf⟩ := pb_gd hf
      obtain ⟨hg2, hf⟩ := pb_gd hf
      refine And.intro hg1 (And.intro hg2 (?_))
      cases hf
      exact hk
  unfold f_173 at hf
  refine hG.1 0 0 kb_173_0 _ _ _ rfl ?_
  obtain ⟨e4, he_e4, hf⟩ := Option.bind_eq_some_iff.mp hf
  refine hl_3 _ _ _ _ _ _ _ he_e4 ?_
  refine hG.1 2 31 kb_173_31 _ _ _ rfl ?_
  cases hf
  exact And.intro rfl rfl
def f_177_3s (N : Nat) (v0 : Nat) (v1 : Int32) (s : Int32 × pb_HP) : Option ((Int32 × pb_HP) ⊕ (pb_HP)) :=
  if s.1 < 0 then (some (.inr s.2)) else (if pb_is s.2 v0 11 then ((pb_R s.2 v0 1).bind fun q2 => ((pb_R s.2 v0 2).bind fun q3 => (if pb_ar s.2 q3 12 0 then (if pb_ar s.2 q2 13 (pb_I s.2 q3 (0 : Int32).toNatClampNeg) then (pb_hb (pb_pI (pb_pI s.2 q2 (pb_I s.2 q3 (0 : Int32).toNatClampNeg).toNatClampNeg (Int32.toInt8 ((Int32.toInt8 (v1 >>> (s.1 &&& 31))).toInt32)).toInt32) q3 (0 : Int32).toNatClampNeg ((pb_I (pb_pI s.2 q2 (pb_I s.2 q3 (0 : Int32).toNatClampNeg).toNatClampNeg (Int32.toInt8 ((Int32.toInt8 (v1 >>> (s.1 &&& 31))).toInt32)).toInt32) q3 (0 : Int32).toNatClampNeg) + 1)) fun h6 => (some (.inl ((s.1 + (-8), h6))))) else none) else none))) else none)
/-- PointedBenchModel.four -/
def f_177 (N : Nat) (h : pb_HP) (v0 : Nat) (v1 : Int32) : Option (pb_HP) :=
  (pb_wl (f_177_3s N v0 v1) N ((24, h))).bind fun e13 => (some e13)
set_option maxRecDepth 4000 in
theorem l_177 {xs : List Int32} {d : Nat} {N : Nat} {h : pb_HP} {v0 : Nat} {v1 : Int32} {hE : pb_HP} (hf : f_177 N h v0 v1 = some hE) : pb_AR xs (d + 1) 177 h [.ref v0, .int v1] none hE := by
  intro G hG
  have hc_ : pb_CODE 177 = kc_177 := rfl
  rw [hc_] at hG
  have hl_3 : ∀ (v0 : Nat) (v1 : Int32) (n_ : Nat) (s : Int32 × pb_HP) (e : pb_HP), pb_wl (f_177_3s N v0 v1) n_ s = some e → G 38 [] [] e → G 3 [(0, .ref v0), (1, .int v1), (2, .int s.1)] [] s.2 := by
    intro v0 v1
    refine pb_wl_ind (I := fun (s : Int32 × pb_HP) => G 3 [(0, .ref v0), (1, .int v1), (2, .int s.1)] [] s.2) (K := fun (e : pb_HP) => G 38 [] [] e) (fun s x hf hk => ?_)
    unfold f_177_3s at hf
    refine hG.1 1 3 kb_177_3 _ _ _ rfl ?_
    refine And.intro (fun (hc12 : s.1 < 0) => ?_) (fun (hc12 : ¬ (s.1 < 0)) => ?_)
    · rw [if_pos hc12] at hf
      cases hf
      exact hG.2 38 _ [] _ _ _ rfl hk
    · rw [if_neg hc12] at hf
      obtain ⟨hg1, hf⟩ := pb_gd hf
      obtain ⟨q2, eq2, hf⟩ := Option.bind_eq_some_iff.mp hf
      obtain ⟨q3, eq3, hf⟩ := Option.bind_eq_some_iff.mp hf
      obtain ⟨hg4, hf⟩ := pb_gd hf
      obtain ⟨hg5, hf⟩ := pb_gd hf
      refine And.intro hg1 (Exists.intro q2 (And.intro eq2 (And.intro hg1 (Exists.intro q3 (And.intro eq3 (And.intro hg4 (And.intro hg5 (And.intro hg1 (Exists.intro q3 (And.intro eq3 (And.intro hg4 (And.intro hg4 (?_)))))))))))))
      refine pb_hset (E := pb_pI (pb_pI s.2 q2 (pb_I s.2 q3 (0 : Int32).toNatClampNeg).toNatClampNeg (Int32.toInt8 ((Int32.toInt8 (v1 >>> (s.1 &&& 31))).toInt32)).toInt32) q3 (0 : Int32).toNatClampNeg ((pb_I (pb_pI s.2 q2 (pb_I s.2 q3 (0 : Int32).toNatClampNeg).toNatClampNeg (Int32.toInt8 ((Int32.toInt8 (v1 >>> (s.1 &&& 31))).toInt32)).toInt32) q3 (0 : Int32).toNatClampNeg) + 1)) rfl (fun h6 eh6 => ?_)
      have hf := pb_hbd hf eh6
      have hg7 : pb_is h6 v0 11 := pb_isx eh6 hg1
      have hg8 : pb_ar h6 q3 12 0 := pb_arx eh6 hg4
      have hg9 : pb_ar h6 q2 13 (pb_I s.2 q3 (0 : Int32).toNatClampNeg) := pb_arx eh6 hg5
      have eq10 : pb_R h6 v0 1 = some q2 := pb_Rx eh6 eq2
      have eq11 : pb_R h6 v0 2 = some q3 := pb_Rx eh6 eq3
      cases hf
      exact hk
  unfold f_177 at hf
  refine hG.1 0 0 kb_177_0 _ _ _ rfl ?_
  obtain ⟨e13, he_e13, hf⟩ := Option.bind_eq_some_iff.mp hf
  refine hl_3 _ _ _ _ _ he_e13 ?_
  refine hG.1 2 38 kb_177_38 _ _ _ rfl ?_
  cases hf
  exact And.intro rfl rfl
/-- PointedBenchModel.see -/
def f_179 (h : pb_HP) (v0 : Nat) : Option (Int32) :=
  if pb_is h v0 11 then (if (pb_I h v0 10) ≤ (pb_I h v0 9) then (some ((-1))) else ((pb_R h v0 1).bind fun q2 => (if pb_ar h q2 13 (pb_I h v0 9) then (some ((pb_I h q2 (pb_I h v0 9).toNatClampNeg) &&& 255)) else none))) else none
set_option maxRecDepth 4000 in
theorem l_179 {xs : List Int32} {d : Nat} {h : pb_HP} {v0 : Nat} {r : Int32} (hf : f_179 h v0 = some r) : pb_AR xs (d + 1) 179 h [.ref v0] (some (.int r)) h := by
  intro G hG
  have hc_ : pb_CODE 179 = kc_179 := rfl
  rw [hc_] at hG
  unfold f_179 at hf
  refine hG.1 0 0 kb_179_0 _ _ _ rfl ?_
  obtain ⟨hg1, hf⟩ := pb_gd hf
  refine And.intro hg1 (And.intro hg1 (?_))
  refine And.intro (fun (hc4 : (pb_I h v0 10) ≤ (pb_I h v0 9)) => ?_) (fun (hc4 : ¬ ((pb_I h v0 10) ≤ (pb_I h v0 9))) => ?_)
  · rw [if_pos hc4] at hf
    refine hG.1 1 27 kb_179_27 _ _ _ rfl ?_
    refine hG.1 2 28 kb_179_28 _ _ _ rfl ?_
    cases hf
    exact And.intro (fun z_ => absurd z_ (by decide)) (And.intro rfl rfl)
  · rw [if_neg hc4] at hf
    obtain ⟨q2, eq2, hf⟩ := Option.bind_eq_some_iff.mp hf
    obtain ⟨hg3, hf⟩ := pb_gd hf
    refine And.intro hg1 (Exists.intro q2 (And.intro eq2 (And.intro hg1 (And.intro hg3 (?_)))))
    refine hG.1 2 28 kb_179_28 _ _ _ rfl ?_
    cases hf
    exact And.intro (fun z_ => absurd z_ (by decide)) (And.intro rfl rfl)
/-- PointedBenchModel.fails -/
def f_181 (h : pb_HP) (v0 : Nat) : Option (Int32 × pb_HP) :=
  if pb_is h v0 11 then (some ((0, pb_pI h v0 15 (pb_I h v0 11)))) else none
set_option maxRecDepth 4000 in
theorem l_181 {xs : List Int32} {d : Nat} {h : pb_HP} {v0 : Nat} {r : Int32} {hE : pb_HP} (hf : f_181 h v0 = some ((r, hE))) : pb_AR xs (d + 1) 181 h [.ref v0] (some (.int r)) hE := by
  intro G hG
  have hc_ : pb_CODE 181 = kc_181 := rfl
  rw [hc_] at hG
  unfold f_181 at hf
  refine hG.1 0 0 kb_181_0 _ _ _ rfl ?_
  obtain ⟨hg1, hf⟩ := pb_gd hf
  refine And.intro hg1 (And.intro hg1 (?_))
  cases hf
  exact And.intro (fun _ => Or.inl rfl) (And.intro rfl rfl)
def f_182_31 (h : pb_HP) (v0 : Nat) (v1 : Int32) (v2 : Int32) : Option (pb_HP) :=
  if pb_is h v0 11 then (some (pb_pI (pb_pI h v0 16 v1) v0 17 v2)) else none
/-- PointedBenchModel.addsFault -/
def f_182 (h : pb_HP) (v0 : Nat) (v1 : Int32) (v2 : Int32) : Option (pb_HP) :=
  if pb_is h v0 11 then (if (pb_I h v0 16) = 0 then (f_182_31 h v0 v1 v2) else (if v2 < (pb_I h v0 17) then (f_182_31 h v0 v1 v2) else (if ¬ v2 = (pb_I h v0 17) then (some h) else (if (pb_I h v0 16) ≤ v1 then (some h) else (f_182_31 h v0 v1 v2))))) else none
set_option maxRecDepth 4000 in
theorem l_182 {xs : List Int32} {d : Nat} {h : pb_HP} {v0 : Nat} {v1 : Int32} {v2 : Int32} {hE : pb_HP} (hf : f_182 h v0 v1 v2 = some hE) : pb_AR xs (d + 1) 182 h [.ref v0, .int v1, .int v2] none hE := by
  intro G hG
  have hc_ : pb_CODE 182 = kc_182 := rfl
  rw [hc_] at hG
  have hj_31 : ∀ (h : pb_HP) (v0 : Nat) (v1 : Int32) (v2 : Int32), f_182_31 h v0 v1 v2 = some hE → G 31 [(0, .ref v0), (1, .int v1), (2, .int v2)] [] h := by
    intro h v0 v1 v2 hf
    unfold f_182_31 at hf
    refine hG.1 1 31 kb_182_31 _ _ _ rfl ?_
    obtain ⟨hg2, hf⟩ := pb_gd hf
    refine And.intro hg2 (And.intro hg2 (?_))
    refine hG.1 2 41 kb_182_41 _ _ _ rfl ?_
    cases hf
    exact And.intro rfl rfl
  unfold f_182 at hf
  refine hG.1 0 0 kb_182_0 _ _ _ rfl ?_
  obtain ⟨hg1, hf⟩ := pb_gd hf
  refine And.intro hg1 (?_)
  refine And.intro (fun (hc6 : (pb_I h v0 16) = 0) => ?_) (fun (hc6 : ¬ ((pb_I h v0 16) = 0)) => ?_)
  · rw [if_pos hc6] at hf
    exact hj_31 _ _ _ _ hf
  · rw [if_neg hc6] at hf
    refine And.intro hg1 (?_)
    refine And.intro (fun (hc5 : v2 < (pb_I h v0 17)) => ?_) (fun (hc5 : ¬ (v2 < (pb_I h v0 17))) => ?_)
    · rw [if_pos hc5] at hf
      exact hj_31 _ _ _ _ hf
    · rw [if_neg hc5] at hf
      refine And.intro hg1 (?_)
      refine And.intro (fun (hc4 : ¬ v2 = (pb_I h v0 17)) => ?_) (fun (hc4 : ¬ (¬ v2 = (pb_I h v0 17))) => ?_)
      · rw [if_pos hc4] at hf
        refine hG.1 2 41 kb_182_41 _ _ _ rfl ?_
        cases hf
        exact And.intro rfl rfl
      · rw [if_neg hc4] at hf
        refine And.intro hg1 (?_)
        refine And.intro (fun (hc3 : (pb_I h v0 16) ≤ v1) => ?_) (fun (hc3 : ¬ ((pb_I h v0 16) ≤ v1)) => ?_)
        · rw [if_pos hc3] at hf
          refine hG.1 2 41 kb_182_41 _ _ _ rfl ?_
          cases hf
          exact And.intro rfl rfl
        · rw [if_neg hc3] at hf
          exact hj_31 _ _ _ _ hf
def f_188_16s (N : Nat) (v0 : Nat) (v1 : Int32) (v3 : Int32) (s : Int32 × pb_HP) : Option ((Int32 × pb_HP) ⊕ (pb_HP)) :=
  if v1 ≤ s.1 then (some (.inr s.2)) else (if pb_is s.2 v0 11 then ((pb_R s.2 v0 18).bind fun q5 => ((pb_R s.2 v0 19).bind fun q6 => (if pb_ar s.2 q6 12 s.1 then (if pb_ar s.2 q5 12 ((1 + (v1 * v3)) + s.1) then (some (.inl ((s.1 + 1, pb_pI s.2 q5 ((1 + (v1 * v3)) + s.1).toNatClampNeg (pb_I s.2 q6 s.1.toNatClampNeg))))) else none) else none))) else none)
/-- PointedBenchModel.keepRow -/
def f_188 (N : Nat) (h : pb_HP) (v0 : Nat) (v1 : Int32) (v2 : Int32) : Option (pb_HP) :=
  if pb_is h v0 11 then ((pb_R h v0 18).bind fun q2 => (if pb_ar h q2 12 0 then (if ¬ (pb_I h q2 (0 : Int32).toNatClampNeg) = v2 then ((pb_wl (f_188_16s N v0 v1 (pb_I h q2 (0 : Int32).toNatClampNeg)) N ((0, h))).bind fun e10 => (if pb_is e10 v0 11 then ((pb_R e10 v0 18).bind fun q12 => (if pb_ar e10 q12 12 0 then (some (pb_pI e10 q12 (0 : Int32).toNatClampNeg ((pb_I e10 q12 (0 : Int32).toNatClampNeg) + 1))) else none)) else none)) else (some h)) else none)) else none
set_option maxRecDepth 4000 in
theorem l_188 {xs : List Int32} {d : Nat} {N : Nat} {h : pb_HP} {v0 : Nat} {v1 : Int32} {v2 : Int32} {hE : pb_HP} (hf : f_188 N h v0 v1 v2 = some hE) : pb_AR xs (d + 1) 188 h [.ref v0, .int v1, .int v2] none hE := by
  intro G hG
  have hc_ : pb_CODE 188 = kc_188 := rfl
  rw [hc_] at hG
  have hl_16 : ∀ (v0 : Nat) (v1 : Int32) (v3 : Int32) (n_ : Nat) (s : Int32 × pb_HP) (e : pb_HP), pb_wl (f_188_16s N v0 v1 v3) n_ s = some e → G 48 [(0, .ref v0)] [] e → G 16 [(0, .ref v0), (1, .int v1), (3, .int v3), (4, .int s.1)] [] s.2 := by
    intro v0 v1 v3
    refine pb_wl_ind (I := fun (s : Int32 × pb_HP) => G 16 [(0, .ref v0), (1, .int v1), (3, .int v3), (4, .int s.1)] [] s.2) (K := fun (e : pb_HP) => G 48 [(0, .ref v0)] [] e) (fun s x hf hk => ?_)
    unfold f_188_16s at hf
    refine hG.1 2 16 kb_188_16 _ _ _ rfl ?_
    refine And.intro (fun (hc9 : v1 ≤ s.1) => ?_) (fun (hc9 : ¬ (v1 ≤ s.1)) => ?_)
    · rw [if_pos hc9] at hf
      cases hf
      exact hG.2 48 _ [0] _ _ _ rfl hk
    · rw [if_neg hc9] at hf
      obtain ⟨hg4, hf⟩ := pb_gd hf
      obtain ⟨q5, eq5, hf⟩ := Option.bind_eq_some_iff.mp hf
      obtain ⟨q6, eq6, hf⟩ := Option.bind_eq_some_iff.mp hf
      obtain ⟨hg7, hf⟩ := pb_gd hf
      obtain ⟨hg8, hf⟩ := pb_gd hf
      refine And.intro hg4 (Exists.intro q5 (And.intro eq5 (And.intro hg4 (Exists.intro q6 (And.intro eq6 (And.intro hg7 (And.intro hg8 (?_))))))))
      cases hf
      exact hk
  unfold f_188 at hf
  refine hG.1 0 0 kb_188_0 _ _ _ rfl ?_
  obtain ⟨hg1, hf⟩ := pb_gd hf
  obtain ⟨q2, eq2, hf⟩ := Option.bind_eq_some_iff.mp hf
  obtain ⟨hg3, hf⟩ := pb_gd hf
  refine And.intro hg1 (Exists.intro q2 (And.intro eq2 (And.intro hg3 (?_))))
  refine And.intro (fun (hc14 : ¬ (pb_I h q2 (0 : Int32).toNatClampNeg) = v2) => ?_) (fun (hc14 : ¬ (¬ (pb_I h q2 (0 : Int32).toNatClampNeg) = v2)) => ?_)
  · rw [if_pos hc14] at hf
    refine hG.1 1 13 kb_188_13 _ _ _ rfl ?_
    obtain ⟨e10, he_e10, hf⟩ := Option.bind_eq_some_iff.mp hf
    refine hG.2 16 _ [0, 1, 3, 4] _ _ _ rfl ?_
    refine hl_16 _ _ _ _ _ _ he_e10 ?_
    refine hG.1 3 48 kb_188_48 _ _ _ rfl ?_
    obtain ⟨hg11, hf⟩ := pb_gd hf
    obtain ⟨q12, eq12, hf⟩ := Option.bind_eq_some_iff.mp hf
    obtain ⟨hg13, hf⟩ := pb_gd hf
    refine And.intro hg11 (Exists.intro q12 (And.intro eq12 (And.intro hg13 (And.intro hg13 (?_)))))
    cases hf
    exact And.intro rfl rfl
  · rw [if_neg hc14] at hf
    cases hf
    exact And.intro rfl rfl
/-- PointedBenchModel.deedBy -/
def f_189 (v0 : Nat) (v1 : Int64) : Option (Int32) :=
  if ¬ (lg_cmp v1 1936224119) = 0 then (if ¬ (lg_cmp v1 1751737445) = 0 then (if ¬ (lg_cmp v1 495588569701) = 0 then (if ¬ (lg_cmp v1 500135453044) = 0 then (if ¬ (lg_cmp v1 7304564) = 0 then (if ¬ (lg_cmp v1 1885954923) = 0 then (if ¬ (lg_cmp v1 2036687218) = 0 then (some ((-1))) else (some 6)) else (some 5)) else (some 4)) else (some 3)) else (some 2)) else (some 1)) else (some 0)
set_option maxRecDepth 4000 in
theorem l_189 {xs : List Int32} {d : Nat} {h : pb_HP} {v0 : Nat} {v1 : Int64} {r : Int32} (hf : f_189 v0 v1 = some r) : pb_AR xs (d + 1) 189 h [.ref v0, .long v1] (some (.int r)) h := by
  intro G hG
  have hc_ : pb_CODE 189 = kc_189 := rfl
  rw [hc_] at hG
  unfold f_189 at hf
  refine hG.1 0 0 kb_189_0 _ _ _ rfl ?_
  refine And.intro (fun (hc7 : ¬ (lg_cmp v1 1936224119) = 0) => ?_) (fun (hc7 : ¬ (¬ (lg_cmp v1 1936224119) = 0)) => ?_)
  · rw [if_pos hc7] at hf
    refine hG.1 1 12 kb_189_12 _ _ _ rfl ?_
    refine And.intro (fun (hc6 : ¬ (lg_cmp v1 1751737445) = 0) => ?_) (fun (hc6 : ¬ (¬ (lg_cmp v1 1751737445) = 0)) => ?_)
    · rw [if_pos hc6] at hf
      refine hG.1 2 24 kb_189_24 _ _ _ rfl ?_
      refine And.intro (fun (hc5 : ¬ (lg_cmp v1 495588569701) = 0) => ?_) (fun (hc5 : ¬ (¬ (lg_cmp v1 495588569701) = 0)) => ?_)
      · rw [if_pos hc5] at hf
        refine hG.1 3 36 kb_189_36 _ _ _ rfl ?_
        refine And.intro (fun (hc4 : ¬ (lg_cmp v1 500135453044) = 0) => ?_) (fun (hc4 : ¬ (¬ (lg_cmp v1 500135453044) = 0)) => ?_)
        · rw [if_pos hc4] at hf
          refine hG.1 4 48 kb_189_48 _ _ _ rfl ?_
          refine And.intro (fun (hc3 : ¬ (lg_cmp v1 7304564) = 0) => ?_) (fun (hc3 : ¬ (¬ (lg_cmp v1 7304564) = 0)) => ?_)
          · rw [if_pos hc3] at hf
            refine hG.1 5 60 kb_189_60 _ _ _ rfl ?_
            refine And.intro (fun (hc2 : ¬ (lg_cmp v1 1885954923) = 0) => ?_) (fun (hc2 : ¬ (¬ (lg_cmp v1 1885954923) = 0)) => ?_)
            · rw [if_pos hc2] at hf
              refine hG.1 6 72 kb_189_72 _ _ _ rfl ?_
              refine And.intro (fun (hc1 : ¬ (lg_cmp v1 2036687218) = 0) => ?_) (fun (hc1 : ¬ (¬ (lg_cmp v1 2036687218) = 0)) => ?_)
              · rw [if_pos hc1] at hf
                refine hG.1 7 85 kb_189_85 _ _ _ rfl ?_
                refine hG.1 8 86 kb_189_86 _ _ _ rfl ?_
                cases hf
                exact And.intro (fun z_ => absurd z_ (by decide)) (And.intro rfl rfl)
              · rw [if_neg hc1] at hf
                refine hG.1 8 86 kb_189_86 _ _ _ rfl ?_
                cases hf
                exact And.intro (fun z_ => absurd z_ (by decide)) (And.intro rfl rfl)
            · rw [if_neg hc2] at hf
              refine hG.1 8 86 kb_189_86 _ _ _ rfl ?_
              cases hf
              exact And.intro (fun z_ => absurd z_ (by decide)) (And.intro rfl rfl)
          · rw [if_neg hc3] at hf
            refine hG.1 8 86 kb_189_86 _ _ _ rfl ?_
            cases hf
            exact And.intro (fun z_ => absurd z_ (by decide)) (And.intro rfl rfl)
        · rw [if_neg hc4] at hf
          refine hG.1 8 86 kb_189_86 _ _ _ rfl ?_
          cases hf
          exact And.intro (fun z_ => absurd z_ (by decide)) (And.intro rfl rfl)
      · rw [if_neg hc5] at hf
        refine hG.1 8 86 kb_189_86 _ _ _ rfl ?_
        cases hf
        exact And.intro (fun z_ => absurd z_ (by decide)) (And.intro rfl rfl)
    · rw [if_neg hc6] at hf
      refine hG.1 8 86 kb_189_86 _ _ _ rfl ?_
      cases hf
      exact And.intro (fun z_ => absurd z_ (by decide)) (And.intro rfl rfl)
  · rw [if_neg hc7] at hf
    refine hG.1 8 86 kb_189_86 _ _ _ rfl ?_
    cases hf
    exact And.intro (fun z_ => absurd z_ (by decide)) (And.intro rfl rfl)
def f_194_3s (N : Nat) (v0 : Nat) (v1 : Nat) (v2 : Int32) (v3 : Int32) (s : Int32 × pb_HP) : Option ((Int32 × pb_HP) ⊕ (pb_HP)) :=
  if v2 ≤ s.1 then (some (.inr s.2)) else (if pb_is s.2 v0 11 then ((pb_R s.2 v0 18).bind fun q2 => (if pb_ar s.2 q2 12 s.1 then (if pb_ar s.2 v1 12 ((v2 * v3) + s.1) then (some (.inl ((s.1 + 1, pb_pI s.2 v1 ((v2 * v3) + s.1).toNatClampNeg (pb_I s.2 q2 s.1.toNatClampNeg))))) else none) else none)) else none)
/-- PointedBenchModel.store -/
def f_194 (N : Nat) (h : pb_HP) (v0 : Nat) (v1 : Nat) (v2 : Int32) (v3 : Int32) : Option (pb_HP) :=
  (pb_wl (f_194_3s N v0 v1 v2 v3) N ((0, h))).bind fun e6 => (some e6)
set_option maxRecDepth 4000 in
theorem l_194 {xs : List Int32} {d : Nat} {N : Nat} {h : pb_HP} {v0 : Nat} {v1 : Nat} {v2 : Int32} {v3 : Int32} {hE : pb_HP} (hf : f_194 N h v0 v1 v2 v3 = some hE) : pb_AR xs (d + 1) 194 h [.ref v0, .ref v1, .int v2, .int v3] none hE := by
  intro G hG
  have hc_ : pb_CODE 194 = kc_194 := rfl
  rw [hc_] at hG
  have hl_3 : ∀ (v0 : Nat) (v1 : Nat) (v2 : Int32) (v3 : Int32) (n_ : Nat) (s : Int32 × pb_HP) (e : pb_HP), pb_wl (f_194_3s N v0 v1 v2 v3) n_ s = some e → G 30 [] [] e → G 3 [(0, .ref v0), (1, .ref v1), (2, .int v2), (3, .int v3), (4, .int s.1)] [] s.2 := by
    intro v0 v1 v2 v3
    refine pb_wl_ind (I := fun (s : Int32 × pb_HP) => G 3 [(0, .ref v0), (1, .ref v1), (2, .int v2), (3, .int v3), (4, .int s.1)] [] s.2) (K := fun (e : pb_HP) => G 30 [] [] e) (fun s x hf hk => ?_)
    unfold f_194_3s at hf
    refine hG.1 1 3 kb_194_3 _ _ _ rfl ?_
    refine And.intro (fun (hc5 : v2 ≤ s.1) => ?_) (fun (hc5 : ¬ (v2 ≤ s.1)) => ?_)
    · rw [if_pos hc5] at hf
      cases hf
      exact hG.2 30 _ [] _ _ _ rfl hk
    · rw [if_neg hc5] at hf
      obtain ⟨hg1, hf⟩ := pb_gd hf
      obtain ⟨q2, eq2, hf⟩ := Option.bind_eq_some_iff.mp hf
      obtain ⟨hg3, hf⟩ := pb_gd hf
      obtain ⟨hg4, hf⟩ := pb_gd hf
      refine And.intro hg1 (Exists.intro q2 (And.intro eq2 (And.intro hg3 (And.intro hg4 (?_)))))
      cases hf
      exact hk
  unfold f_194 at hf
  refine hG.1 0 0 kb_194_0 _ _ _ rfl ?_
  obtain ⟨e6, he_e6, hf⟩ := Option.bind_eq_some_iff.mp hf
  refine hl_3 _ _ _ _ _ _ _ he_e6 ?_
  refine hG.1 2 30 kb_194_30 _ _ _ rfl ?_
  cases hf
  exact And.intro rfl rfl
/-- PointedBenchModel.fault -/
def f_196 (h : pb_HP) (v0 : Nat) (v1 : Int32) : Option (Int32 × pb_HP) :=
  if pb_is h v0 11 then (if ¬ v1 = 0 then (if ¬ v1 = 1 then (some (((-1), pb_pI h v0 0 0))) else ((pb_R h v0 4).bind fun q2 => (if pb_ar h q2 12 0 then (some ((pb_I (pb_pI h v0 0 0) q2 (0 : Int32).toNatClampNeg, pb_pI h v0 0 0))) else none))) else ((pb_R h v0 3).bind fun q5 => (if pb_ar h q5 12 0 then (some ((pb_I (pb_pI h v0 0 0) q5 (0 : Int32).toNatClampNeg, pb_pI h v0 0 0))) else none))) else none
set_option maxRecDepth 4000 in
theorem l_196 {xs : List Int32} {d : Nat} {h : pb_HP} {v0 : Nat} {v1 : Int32} {r : Int32} {hE : pb_HP} (hf : f_196 h v0 v1 = some ((r, hE))) : pb_AR xs (d + 1) 196 h [.ref v0, .int v1] (some (.int r)) hE := by
  intro G hG
  have hc_ : pb_CODE 196 = kc_196 := rfl
  rw [hc_] at hG
  unfold f_196 at hf
  refine hG.1 0 0 kb_196_0 _ _ _ rfl ?_
  obtain ⟨hg1, hf⟩ := pb_gd hf
  refine And.intro hg1 (?_)
  refine And.intro (fun (hc7 : ¬ v1 = 0) => ?_) (fun (hc7 : ¬ (¬ v1 = 0)) => ?_)
  · rw [if_pos hc7] at hf
    refine hG.1 1 18 kb_196_18 _ _ _ rfl ?_
    refine And.intro (fun (hc4 : ¬ v1 = 1) => ?_) (fun (hc4 : ¬ (¬ v1 = 1)) => ?_)
    · rw [if_pos hc4] at hf
      refine hG.1 2 32 kb_196_32 _ _ _ rfl ?_
      refine hG.1 3 33 kb_196_33 _ _ _ rfl ?_
      cases hf
      exact And.intro (fun z_ => absurd z_ (by decide)) (And.intro rfl rfl)
    · rw [if_neg hc4] at hf
      obtain ⟨q2, eq2, hf⟩ := Option.bind_eq_some_iff.mp hf
      obtain ⟨hg3, hf⟩ := pb_gd hf
      refine And.intro hg1 (Exists.intro q2 (And.intro eq2 (And.intro hg3 (?_))))
      refine hG.1 3 33 kb_196_33 _ _ _ rfl ?_
      cases hf
      exact And.intro (fun z_ => absurd z_ (by decide)) (And.intro rfl rfl)
  · rw [if_neg hc7] at hf
    obtain ⟨q5, eq5, hf⟩ := Option.bind_eq_some_iff.mp hf
    obtain ⟨hg6, hf⟩ := pb_gd hf
    refine And.intro hg1 (Exists.intro q5 (And.intro eq5 (And.intro hg6 (?_))))
    refine hG.1 3 33 kb_196_33 _ _ _ rfl ?_
    cases hf
    exact And.intro (fun z_ => absurd z_ (by decide)) (And.intro rfl rfl)
/-- PointedBenchModel.of -/
def f_197 (h : pb_HP) (v0 : Nat) (v1 : Int32) : Option (Int32) :=
  if pb_is h v0 11 then ((pb_R h v0 6).bind fun q2 => (if pb_ar h q2 12 ((68 * (pb_I h v0 23)) + v1) then (some (pb_I h q2 ((68 * (pb_I h v0 23)) + v1).toNatClampNeg)) else none)) else none
set_option maxRecDepth 4000 in
theorem l_197 {xs : List Int32} {d : Nat} {h : pb_HP} {v0 : Nat} {v1 : Int32} {r : Int32} (hf : f_197 h v0 v1 = some r) : pb_AR xs (d + 1) 197 h [.ref v0, .int v1] (some (.int r)) h := by
  intro G hG
  have hc_ : pb_CODE 197 = kc_197 := rfl
  rw [hc_] at hG
  unfold f_197 at hf
  refine hG.1 0 0 kb_197_0 _ _ _ rfl ?_
  obtain ⟨hg1, hf⟩ := pb_gd hf
  obtain ⟨q2, eq2, hf⟩ := Option.bind_eq_some_iff.mp hf
  obtain ⟨hg3, hf⟩ := pb_gd hf
  refine And.intro hg1 (Exists.intro q2 (And.intro eq2 (And.intro hg1 (And.intro hg3 (?_)))))
  cases hf
  exact And.intro (fun z_ => absurd z_ (by decide)) (And.intro rfl rfl)
/-- PointedBenchModel.votes -/
def f_202 (h : pb_HP) (v0 : Nat) (v1 : Int32) : Option (Int32) :=
  if pb_is h v0 11 then ((pb_R h v0 31).bind fun q2 => (if pb_ar h q2 12 v1 then (if 12 < (pb_I h q2 v1.toNatClampNeg) then (some 0) else ((pb_R h v0 32).bind fun q4 => (if pb_ar h q4 12 v1 then (if (pb_I h q4 v1.toNatClampNeg) ≤ 0 then (some 0) else (some 1)) else none))) else none)) else none
set_option maxRecDepth 4000 in
theorem l_202 {xs : List Int32} {d : Nat} {h : pb_HP} {v0 : Nat} {v1 : Int32} {r : Int32} (hf : f_202 h v0 v1 = some r) : pb_AR xs (d + 1) 202 h [.ref v0, .int v1] (some (.int r)) h := by
  intro G hG
  have hc_ : pb_CODE 202 = kc_202 := rfl
  rw [hc_] at hG
  unfold f_202 at hf
  refine hG.1 0 0 kb_202_0 _ _ _ rfl ?_
  obtain ⟨hg1, hf⟩ := pb_gd hf
  obtain ⟨q2, eq2, hf⟩ := Option.bind_eq_some_iff.mp hf
  obtain ⟨hg3, hf⟩ := pb_gd hf
  refine And.intro hg1 (Exists.intro q2 (And.intro eq2 (And.intro hg3 (?_))))
  refine And.intro (fun (hc7 : 12 < (pb_I h q2 v1.toNatClampNeg)) => ?_) (fun (hc7 : ¬ (12 < (pb_I h q2 v1.toNatClampNeg))) => ?_)
  · rw [if_pos hc7] at hf
    refine hG.1 1 24 kb_202_24 _ _ _ rfl ?_
    refine hG.1 2 25 kb_202_25 _ _ _ rfl ?_
    cases hf
    exact And.intro (fun _ => Or.inl rfl) (And.intro rfl rfl)
  · rw [if_neg hc7] at hf
    obtain ⟨q4, eq4, hf⟩ := Option.bind_eq_some_iff.mp hf
    obtain ⟨hg5, hf⟩ := pb_gd hf
    refine And.intro hg1 (Exists.intro q4 (And.intro eq4 (And.intro hg5 (?_))))
    refine And.intro (fun (hc6 : (pb_I h q4 v1.toNatClampNeg) ≤ 0) => ?_) (fun (hc6 : ¬ ((pb_I h q4 v1.toNatClampNeg) ≤ 0)) => ?_)
    · rw [if_pos hc6] at hf
      refine hG.1 1 24 kb_202_24 _ _ _ rfl ?_
      refine hG.1 2 25 kb_202_25 _ _ _ rfl ?_
      cases hf
      exact And.intro (fun _ => Or.inl rfl) (And.intro rfl rfl)
    · rw [if_neg hc6] at hf
      refine hG.1 2 25 kb_202_25 _ _ _ rfl ?_
      cases hf
      exact And.intro (fun _ => Or.inr rfl) (And.intro rfl rfl)
/-- PointedBenchModel.dreads -/
def f_205 (h : pb_HP) (v0 : Nat) (v1 : Int32) (v2 : Int32) : Option (Int32) :=
  if pb_is h v0 11 then ((pb_R h v0 30).bind fun q2 => (if pb_ar h q2 12 v2 then ((pb_R h v0 33).bind fun q4 => (if pb_ar h q4 12 v1 then (if ((pb_I h q2 v2.toNatClampNeg) &&& (pb_I h q4 v1.toNatClampNeg)) = 0 then (some 0) else (some 1)) else none)) else none)) else none
set_option maxRecDepth 4000 in
theorem l_205 {xs : List Int32} {d : Nat} {h : pb_HP} {v0 : Nat} {v1 : Int32} {v2 : Int32} {r : Int32} (hf : f_205 h v0 v1 v2 = some r) : pb_AR xs (d + 1) 205 h [.ref v0, .int v1, .int v2] (some (.int r)) h := by
  intro G hG
  have hc_ : pb_CODE 205 = kc_205 := rfl
  rw [hc_] at hG
  unfold f_205 at hf
  refine hG.1 0 0 kb_205_0 _ _ _ rfl ?_
  obtain ⟨hg1, hf⟩ := pb_gd hf
  obtain ⟨q2, eq2, hf⟩ := Option.bind_eq_some_iff.mp hf
  obtain ⟨hg3, hf⟩ := pb_gd hf
  obtain ⟨q4, eq4, hf⟩ := Option.bind_eq_some_iff.mp hf
  obtain ⟨hg5, hf⟩ := pb_gd hf
  refine And.intro hg1 (Exists.intro q2 (And.intro eq2 (And.intro hg3 (And.intro hg1 (Exists.intro q4 (And.intro eq4 (And.intro hg5 (?_))))))))
  refine And.intro (fun (hc6 : ((pb_I h q2 v2.toNatClampNeg) &&& (pb_I h q4 v1.toNatClampNeg)) = 0) => ?_) (fun (hc6 : ¬ (((pb_I h q2 v2.toNatClampNeg) &&& (pb_I h q4 v1.toNatClampNeg)) = 0)) => ?_)
  · rw [if_pos hc6] at hf
    refine hG.1 1 20 kb_205_20 _ _ _ rfl ?_
    refine hG.1 2 21 kb_205_21 _ _ _ rfl ?_
    cases hf
    exact And.intro (fun _ => Or.inl rfl) (And.intro rfl rfl)
  · rw [if_neg hc6] at hf
    refine hG.1 2 21 kb_205_21 _ _ _ rfl ?_
    cases hf
    exact And.intro (fun _ => Or.inr rfl) (And.intro rfl rfl)
/-- PointedBenchModel.deeds -/
def f_212 (h : pb_HP) (v0 : Nat) : Option (Int32) :=
  if pb_is h v0 11 then ((pb_R h v0 7).bind fun q2 => (if pb_ar h q2 12 (161 * (pb_I h v0 36)) then (some (pb_I h q2 (161 * (pb_I h v0 36)).toNatClampNeg)) else none)) else none
set_option maxRecDepth 4000 in
theorem l_212 {xs : List Int32} {d : Nat} {h : pb_HP} {v0 : Nat} {r : Int32} (hf : f_212 h v0 = some r) : pb_AR xs (d + 1) 212 h [.ref v0] (some (.int r)) h := by
  intro G hG
  have hc_ : pb_CODE 212 = kc_212 := rfl
  rw [hc_] at hG
  unfold f_212 at hf
  refine hG.1 0 0 kb_212_0 _ _ _ rfl ?_
  obtain ⟨hg1, hf⟩ := pb_gd hf
  obtain ⟨q2, eq2, hf⟩ := Option.bind_eq_some_iff.mp hf
  obtain ⟨hg3, hf⟩ := pb_gd hf
  refine And.intro hg1 (Exists.intro q2 (And.intro eq2 (And.intro hg1 (And.intro hg3 (?_)))))
  cases hf
  exact And.intro (fun z_ => absurd z_ (by decide)) (And.intro rfl rfl)
/-- PointedBenchModel.deedOf -/
def f_213 (h : pb_HP) (v0 : Nat) (v1 : Int32) (v2 : Int32) : Option (Int32) :=
  if pb_is h v0 11 then ((pb_R h v0 7).bind fun q2 => (if pb_ar h q2 12 ((((161 * (pb_I h v0 36)) + 1) + (4 * v1)) + v2) then (some (pb_I h q2 ((((161 * (pb_I h v0 36)) + 1) + (4 * v1)) + v2).toNatClampNeg)) else none)) else none
set_option maxRecDepth 4000 in
theorem l_213 {xs : List Int32} {d : Nat} {h : pb_HP} {v0 : Nat} {v1 : Int32} {v2 : Int32} {r : Int32} (hf : f_213 h v0 v1 v2 = some r) : pb_AR xs (d + 1) 213 h [.ref v0, .int v1, .int v2] (some (.int r)) h := by
  intro G hG
  have hc_ : pb_CODE 213 = kc_213 := rfl
  rw [hc_] at hG
  unfold f_213 at hf
  refine hG.1 0 0 kb_213_0 _ _ _ rfl ?_
  obtain ⟨hg1, hf⟩ := pb_gd hf
  obtain ⟨q2, eq2, hf⟩ := Option.bind_eq_some_iff.mp hf
  obtain ⟨hg3, hf⟩ := pb_gd hf
  refine And.intro hg1 (Exists.intro q2 (And.intro eq2 (And.intro hg1 (And.intro hg3 (?_)))))
  cases hf
  exact And.intro (fun z_ => absurd z_ (by decide)) (And.intro rfl rfl)
def f_232_6s (N : Nat) (s : Int64 × Int64) : Option ((Int64 × Int64) ⊕ (Int64)) :=
  if (lg_cmp s.2 0) = 0 then (some (.inr s.1)) else (if ¬ s.2 = 0 then (some (.inl ((s.2, s.1 - s.1 / s.2 * s.2)))) else none)
/-- PointedBenchModel.common -/
def f_232 (N : Nat) (v0 : Int64) (v2 : Int64) : Option (Int64) :=
  (pb_wl (f_232_6s N) N ((v0, v2))).bind fun e3 => (some e3)
set_option maxRecDepth 4000 in
theorem l_232 {xs : List Int32} {d : Nat} {N : Nat} {h : pb_HP} {v0 : Int64} {v2 : Int64} {r : Int64} (hf : f_232 N v0 v2 = some r) : pb_AR xs (d + 1) 232 h [.long v0, .long v2] (some (.long r)) h := by
  intro G hG
  have hc_ : pb_CODE 232 = kc_232 := rfl
  rw [hc_] at hG
  have hl_6 : ∀  (n_ : Nat) (s : Int64 × Int64) (e : Int64), pb_wl (f_232_6s N) n_ s = some e → G 31 [(4, .long e)] [] h → G 6 [(4, .long s.1), (6, .long s.2)] [] h := by
    refine pb_wl_ind (I := fun (s : Int64 × Int64) => G 6 [(4, .long s.1), (6, .long s.2)] [] h) (K := fun (e : Int64) => G 31 [(4, .long e)] [] h) (fun s x hf hk => ?_)
    unfold f_232_6s at hf
    refine hG.1 1 6 kb_232_6 _ _ _ rfl ?_
    refine And.intro (fun (hc2 : (lg_cmp s.2 0) = 0) => ?_) (fun (hc2 : ¬ ((lg_cmp s.2 0) = 0)) => ?_)
    · rw [if_pos hc2] at hf
      cases hf
      exact hG.2 31 _ [0] _ _ _ rfl hk
    · rw [if_neg hc2] at hf
      obtain ⟨hg1, hf⟩ := pb_gd hf
      refine And.intro hg1 (?_)
      cases hf
      exact hG.2 6 _ [0, 1] _ _ _ rfl hk
  unfold f_232 at hf
  refine hG.1 0 0 kb_232_0 _ _ _ rfl ?_
  obtain ⟨e3, he_e3, hf⟩ := Option.bind_eq_some_iff.mp hf
  refine hG.2 6 _ [2, 3] _ _ _ rfl ?_
  refine hl_6  _ _ _ he_e3 ?_
  refine hG.1 2 31 kb_232_31 _ _ _ rfl ?_
  cases hf
  exact And.intro rfl rfl
def f_234_5s (N : Nat) (v0 : Int64) (v2 : Int32) (s : Int64 × Int32) : Option ((Int64 × Int32) ⊕ (Int64)) :=
  if v2 ≤ s.2 then (some (.inr s.1)) else (some (.inl ((s.1 * v0, s.2 + 1))))
/-- PointedBenchModel.times -/
def f_234 (N : Nat) (v0 : Int64) (v2 : Int32) : Option (Int64) :=
  (pb_wl (f_234_5s N v0 v2) N ((1, 0))).bind fun e2 => (some e2)
set_option maxRecDepth 4000 in
theorem l_234 {xs : List Int32} {d : Nat} {N : Nat} {h : pb_HP} {v0 : Int64} {v2 : Int32} {r : Int64} (hf : f_234 N v0 v2 = some r) : pb_AR xs (d + 1) 234 h [.long v0, .int v2] (some (.long r)) h := by
  intro G hG
  have hc_ : pb_CODE 234 = kc_234 := rfl
  rw [hc_] at hG
  have hl_5 : ∀ (v0 : Int64) (v2 : Int32) (n_ : Nat) (s : Int64 × Int32) (e : Int64), pb_wl (f_234_5s N v0 v2) n_ s = some e → G 21 [(3, .long e)] [] h → G 5 [(0, .long v0), (2, .int v2), (3, .long s.1), (5, .int s.2)] [] h := by
    intro v0 v2
    refine pb_wl_ind (I := fun (s : Int64 × Int32) => G 5 [(0, .long v0), (2, .int v2), (3, .long s.1), (5, .int s.2)] [] h) (K := fun (e : Int64) => G 21 [(3, .long e)] [] h) (fun s x hf hk => ?_)
    unfold f_234_5s at hf
    refine hG.1 1 5 kb_234_5 _ _ _ rfl ?_
    refine And.intro (fun (hc1 : v2 ≤ s.2) => ?_) (fun (hc1 : ¬ (v2 ≤ s.2)) => ?_)
    · rw [if_pos hc1] at hf
      cases hf
      exact hG.2 21 _ [2] _ _ _ rfl hk
    · rw [if_neg hc1] at hf
      cases hf
      exact hk
  unfold f_234 at hf
  refine hG.1 0 0 kb_234_0 _ _ _ rfl ?_
  obtain ⟨e2, he_e2, hf⟩ := Option.bind_eq_some_iff.mp hf
  refine hl_5 _ _ _ _ _ he_e2 ?_
  refine hG.1 2 21 kb_234_21 _ _ _ rfl ?_
  cases hf
  exact And.intro rfl rfl
def f_238_4s (N : Nat) (v0 : Int32) (s : Int32 × Int32) : Option ((Int32 × Int32) ⊕ (Int32)) :=
  if v0 ≤ s.2 then (some (.inr s.1)) else (some (.inl ((s.1 * 7, s.2 + 1))))
/-- PointedBenchModel.sevens -/
def f_238 (N : Nat) (v0 : Int32) : Option (Int32) :=
  (pb_wl (f_238_4s N v0) N ((1, 0))).bind fun e2 => (some e2)
set_option maxRecDepth 4000 in
theorem l_238 {xs : List Int32} {d : Nat} {N : Nat} {h : pb_HP} {v0 : Int32} {r : Int32} (hf : f_238 N v0 = some r) : pb_AR xs (d + 1) 238 h [.int v0] (some (.int r)) h := by
  intro G hG
  have hc_ : pb_CODE 238 = kc_238 := rfl
  rw [hc_] at hG
  have hl_4 : ∀ (v0 : Int32) (n_ : Nat) (s : Int32 × Int32) (e : Int32), pb_wl (f_238_4s N v0) n_ s = some e → G 20 [(1, .int e)] [] h → G 4 [(0, .int v0), (1, .int s.1), (2, .int s.2)] [] h := by
    intro v0
    refine pb_wl_ind (I := fun (s : Int32 × Int32) => G 4 [(0, .int v0), (1, .int s.1), (2, .int s.2)] [] h) (K := fun (e : Int32) => G 20 [(1, .int e)] [] h) (fun s x hf hk => ?_)
    unfold f_238_4s at hf
    refine hG.1 1 4 kb_238_4 _ _ _ rfl ?_
    refine And.intro (fun (hc1 : v0 ≤ s.2) => ?_) (fun (hc1 : ¬ (v0 ≤ s.2)) => ?_)
    · rw [if_pos hc1] at hf
      cases hf
      exact hG.2 20 _ [1] _ _ _ rfl hk
    · rw [if_neg hc1] at hf
      cases hf
      exact hk
  unfold f_238 at hf
  refine hG.1 0 0 kb_238_0 _ _ _ rfl ?_
  obtain ⟨e2, he_e2, hf⟩ := Option.bind_eq_some_iff.mp hf
  refine hl_4 _ _ _ _ he_e2 ?_
  refine hG.1 2 20 kb_238_20 _ _ _ rfl ?_
  cases hf
  exact And.intro (fun z_ => absurd z_ (by decide)) (And.intro rfl rfl)
def f_240_61 (N : Nat) (h : pb_HP) (v0 : Nat) (v1 : Int32) (v2 : Int32) (v4 : Int32) (v5 : Int32) : Option ((Int32 × Int32 × pb_HP) ⊕ (Int32 × pb_HP)) :=
  if pb_is h v0 11 then (some (.inl ((v5, v4 + 1, pb_pI h v0 38 v4)))) else none
def f_240_11s (N : Nat) (v0 : Nat) (v1 : Int32) (v2 : Int32) (s : Int32 × Int32 × pb_HP) : Option ((Int32 × Int32 × pb_HP) ⊕ (Int32 × pb_HP)) :=
  if 7 ≤ s.2.1 then (some (.inr ((s.1, s.2.2)))) else (if pb_is s.2.2 v0 11 then ((pb_R s.2.2 v0 37).bind fun q3 => (if pb_ar s.2.2 q3 12 (v1 + s.2.1) then (if (pb_I s.2.2 q3 (v1 + s.2.1).toNatClampNeg) = ((-99)) then (some (.inl ((s.1, s.2.1 + 1, s.2.2)))) else (if s.1 = ((-99)) then (f_240_61 N s.2.2 v0 v1 v2 s.2.1 (pb_I s.2.2 q3 (v1 + s.2.1).toNatClampNeg)) else (if v2 = 0 then (if s.1 ≤ (pb_I s.2.2 q3 (v1 + s.2.1).toNatClampNeg) then (some (.inl ((s.1, s.2.1 + 1, s.2.2)))) else (f_240_61 N s.2.2 v0 v1 v2 s.2.1 (pb_I s.2.2 q3 (v1 + s.2.1).toNatClampNeg))) else (if (pb_I s.2.2 q3 (v1 + s.2.1).toNatClampNeg) ≤ s.1 then (some (.inl ((s.1, s.2.1 + 1, s.2.2)))) else (f_240_61 N s.2.2 v0 v1 v2 s.2.1 (pb_I s.2.2 q3 (v1 + s.2.1).toNatClampNeg)))))) else none)) else none)
/-- PointedBenchModel.fold -/
def f_240 (N : Nat) (h : pb_HP) (v0 : Nat) (v1 : Int32) (v2 : Int32) : Option (Int32 × pb_HP) :=
  if pb_is h v0 11 then ((pb_wl (f_240_11s N v0 v1 v2) N (((-99), 0, pb_pI h v0 38 ((-1))))).bind fun e12 => (some ((e12.1, e12.2)))) else none
set_option maxRecDepth 4000 in
theorem l_240 {xs : List Int32} {d : Nat} {N : Nat} {h : pb_HP} {v0 : Nat} {v1 : Int32} {v2 : Int32} {r : Int32} {hE : pb_HP} (hf : f_240 N h v0 v1 v2 = some ((r, hE))) : pb_AR xs (d + 1) 240 h [.ref v0, .int v1, .int v2] (some (.int r)) hE := by
  intro G hG
  have hc_ : pb_CODE 240 = kc_240 := rfl
  rw [hc_] at hG
  have hj_61 : ∀ (h : pb_HP) (v0 : Nat) (v1 : Int32) (v2 : Int32) (v4 : Int32) (v5 : Int32) x, f_240_61 N h v0 v1 v2 v4 v5 = some x → pb_kk (fun (s_ : Int32 × Int32 × pb_HP) => G 11 [(0, .ref v0), (1, .int v1), (2, .int v2), (3, .int s_.1), (4, .int s_.2.1)] [] s_.2.2) (fun (e_ : Int32 × pb_HP) => G 76 [(3, .int e_.1)] [] e_.2) x → G 61 [(0, .ref v0), (1, .int v1), (2, .int v2), (4, .int v4), (5, .int v5)] [] h := by
    intro h v0 v1 v2 v4 v5 x hf hk
    unfold f_240_61 at hf
    refine hG.1 3 61 kb_240_61 _ _ _ rfl ?_
    obtain ⟨hg5, hf⟩ := pb_gd hf
    refine And.intro hg5 (?_)
    refine hG.1 4 70 kb_240_70 _ _ _ rfl ?_
    cases hf
    exact hG.2 11 _ [0, 1, 2, 5, 3] _ _ _ rfl hk
  have hl_11 : ∀ (v0 : Nat) (v1 : Int32) (v2 : Int32) (n_ : Nat) (s : Int32 × Int32 × pb_HP) (e : Int32 × pb_HP), pb_wl (f_240_11s N v0 v1 v2) n_ s = some e → G 76 [(3, .int e.1)] [] e.2 → G 11 [(0, .ref v0), (1, .int v1), (2, .int v2), (3, .int s.1), (4, .int s.2.1)] [] s.2.2 := by
    intro v0 v1 v2
    refine pb_wl_ind (I := fun (s : Int32 × Int32 × pb_HP) => G 11 [(0, .ref v0), (1, .int v1), (2, .int v2), (3, .int s.1), (4, .int s.2.1)] [] s.2.2) (K := fun (e : Int32 × pb_HP) => G 76 [(3, .int e.1)] [] e.2) (fun s x hf hk => ?_)
    unfold f_240_11s at hf
    refine hG.1 1 11 kb_240_11 _ _ _ rfl ?_
    refine And.intro (fun (hc11 : 7 ≤ s.2.1) => ?_) (fun (hc11 : ¬ (7 ≤ s.2.1)) => ?_)
    · rw [if_pos hc11] at hf
      cases hf
      exact hG.2 76 _ [3] _ _ _ rfl hk
    · rw [if_neg hc11] at hf
      obtain ⟨hg2, hf⟩ := pb_gd hf
      obtain ⟨q3, eq3, hf⟩ := Option.bind_eq_some_iff.mp hf
      obtain ⟨hg4, hf⟩ := pb_gd hf
      refine And.intro hg2 (Exists.intro q3 (And.intro eq3 (And.intro hg4 (?_))))
      refine And.intro (fun (hc10 : (pb_I s.2.2 q3 (v1 + s.2.1).toNatClampNeg) = ((-99))) => ?_) (fun (hc10 : ¬ ((pb_I s.2.2 q3 (v1 + s.2.1).toNatClampNeg) = ((-99)))) => ?_)
      · rw [if_pos hc10] at hf
        refine hG.1 4 70 kb_240_70 _ _ _ rfl ?_
        cases hf
        exact hG.2 11 _ [0, 1, 2, 3, 4] _ _ _ rfl hk
      · rw [if_neg hc10] at hf
        refine And.intro (fun (hc9 : s.1 = ((-99))) => ?_) (fun (hc9 : ¬ (s.1 = ((-99)))) => ?_)
        · rw [if_pos hc9] at hf
          refine hG.2 61 _ [0, 1, 2, 4, 5] _ _ _ rfl ?_
          exact hj_61 _ _ _ _ _ _ _ hf hk
        · rw [if_neg hc9] at hf
          refine And.intro (fun (hc8 : v2 = 0) => ?_) (fun (hc8 : ¬ (v2 = 0)) => ?_)
          · rw [if_pos hc8] at hf
            refine hG.1 2 55 kb_240_55 _ _ _ rfl ?_
            refine And.intro (fun (hc6 : s.1 ≤ (pb_I s.2.2 q3 (v1 + s.2.1).toNatClampNeg)) => ?_) (fun (hc6 : ¬ (s.1 ≤ (pb_I s.2.2 q3 (v1 + s.2.1).toNatClampNeg))) => ?_)
            · rw [if_pos hc6] at hf
              refine hG.1 4 70 kb_240_70 _ _ _ rfl ?_
              cases hf
              exact hG.2 11 _ [0, 1, 2, 3, 4] _ _ _ rfl hk
            · rw [if_neg hc6] at hf
              refine hG.2 61 _ [0, 1, 2, 4, 5] _ _ _ rfl ?_
              exact hj_61 _ _ _ _ _ _ _ hf hk
          · rw [if_neg hc8] at hf
            refine And.intro (fun (hc7 : (pb_I s.2.2 q3 (v1 + s.2.1).toNatClampNeg) ≤ s.1) => ?_) (fun (hc7 : ¬ ((pb_I s.2.2 q3 (v1 + s.2.1).toNatClampNeg) ≤ s.1)) => ?_)
            · rw [if_pos hc7] at hf
              refine hG.1 4 70 kb_240_70 _ _ _ rfl ?_
              cases hf
              exact hG.2 11 _ [0, 1, 2, 3, 4] _ _ _ rfl hk
            · rw [if_neg hc7] at hf
              refine hG.2 61 _ [0, 1, 2, 4, 5] _ _ _ rfl ?_
              exact hj_61 _ _ _ _ _ _ _ hf hk
  unfold f_240 at hf
  refine hG.1 0 0 kb_240_0 _ _ _ rfl ?_
  obtain ⟨hg1, hf⟩ := pb_gd hf
  refine And.intro hg1 (?_)
  obtain ⟨e12, he_e12, hf⟩ := Option.bind_eq_some_iff.mp hf
  refine hl_11 _ _ _ _ _ _ he_e12 ?_
  refine hG.1 5 76 kb_240_76 _ _ _ rfl ?_
  cases hf
  exact And.intro (fun z_ => absurd z_ (by decide)) (And.intro rfl rfl)
/-- PointedBenchModel.factOf -/
def f_243 (h : pb_HP) (v0 : Nat) (v1 : Int32) (v2 : Int32) : Option (Int32) :=
  if pb_is h v0 11 then ((pb_R h v0 8).bind fun q2 => (if pb_ar h q2 12 ((((25 * (pb_I h v0 39)) + 1) + (3 * v1)) + v2) then (some (pb_I h q2 ((((25 * (pb_I h v0 39)) + 1) + (3 * v1)) + v2).toNatClampNeg)) else none)) else none
set_option maxRecDepth 4000 in
theorem l_243 {xs : List Int32} {d : Nat} {h : pb_HP} {v0 : Nat} {v1 : Int32} {v2 : Int32} {r : Int32} (hf : f_243 h v0 v1 v2 = some r) : pb_AR xs (d + 1) 243 h [.ref v0, .int v1, .int v2] (some (.int r)) h := by
  intro G hG
  have hc_ : pb_CODE 243 = kc_243 := rfl
  rw [hc_] at hG
  unfold f_243 at hf
  refine hG.1 0 0 kb_243_0 _ _ _ rfl ?_
  obtain ⟨hg1, hf⟩ := pb_gd hf
  obtain ⟨q2, eq2, hf⟩ := Option.bind_eq_some_iff.mp hf
  obtain ⟨hg3, hf⟩ := pb_gd hf
  refine And.intro hg1 (Exists.intro q2 (And.intro eq2 (And.intro hg1 (And.intro hg3 (?_)))))
  cases hf
  exact And.intro (fun z_ => absurd z_ (by decide)) (And.intro rfl rfl)
/-- PointedBenchModel.facts -/
def f_244 (h : pb_HP) (v0 : Nat) : Option (Int32) :=
  if pb_is h v0 11 then ((pb_R h v0 8).bind fun q2 => (if pb_ar h q2 12 (25 * (pb_I h v0 39)) then (some (pb_I h q2 (25 * (pb_I h v0 39)).toNatClampNeg)) else none)) else none
set_option maxRecDepth 4000 in
theorem l_244 {xs : List Int32} {d : Nat} {h : pb_HP} {v0 : Nat} {r : Int32} (hf : f_244 h v0 = some r) : pb_AR xs (d + 1) 244 h [.ref v0] (some (.int r)) h := by
  intro G hG
  have hc_ : pb_CODE 244 = kc_244 := rfl
  rw [hc_] at hG
  unfold f_244 at hf
  refine hG.1 0 0 kb_244_0 _ _ _ rfl ?_
  obtain ⟨hg1, hf⟩ := pb_gd hf
  obtain ⟨q2, eq2, hf⟩ := Option.bind_eq_some_iff.mp hf
  obtain ⟨hg3, hf⟩ := pb_gd hf
  refine And.intro hg1 (Exists.intro q2 (And.intro eq2 (And.intro hg1 (And.intro hg3 (?_)))))
  cases hf
  exact And.intro (fun z_ => absurd z_ (by decide)) (And.intro rfl rfl)
def f_247_4s (N : Nat) (v1 : Int32) (s : Int32 × Int32) : Option ((Int32 × Int32) ⊕ (Int32)) :=
  if s.2 ≤ v1 then (some (.inr s.1)) else (some (.inl ((s.1 / 3, s.2 + (-1)))))
/-- PointedBenchModel.likingOf -/
def f_247 (N : Nat) (v0 : Int32) (v1 : Int32) : Option (Int32) :=
  (pb_wl (f_247_4s N v1) N ((v0, 5))).bind fun e2 => (some (e2 - e2 / 3 * 3))
set_option maxRecDepth 4000 in
theorem l_247 {xs : List Int32} {d : Nat} {N : Nat} {h : pb_HP} {v0 : Int32} {v1 : Int32} {r : Int32} (hf : f_247 N v0 v1 = some r) : pb_AR xs (d + 1) 247 h [.int v0, .int v1] (some (.int r)) h := by
  intro G hG
  have hc_ : pb_CODE 247 = kc_247 := rfl
  rw [hc_] at hG
  have hl_4 : ∀ (v1 : Int32) (n_ : Nat) (s : Int32 × Int32) (e : Int32), pb_wl (f_247_4s N v1) n_ s = some e → G 19 [(2, .int e)] [] h → G 4 [(1, .int v1), (2, .int s.1), (3, .int s.2)] [] h := by
    intro v1
    refine pb_wl_ind (I := fun (s : Int32 × Int32) => G 4 [(1, .int v1), (2, .int s.1), (3, .int s.2)] [] h) (K := fun (e : Int32) => G 19 [(2, .int e)] [] h) (fun s x hf hk => ?_)
    unfold f_247_4s at hf
    refine hG.1 1 4 kb_247_4 _ _ _ rfl ?_
    refine And.intro (fun (hc1 : s.2 ≤ v1) => ?_) (fun (hc1 : ¬ (s.2 ≤ v1)) => ?_)
    · rw [if_pos hc1] at hf
      cases hf
      exact hG.2 19 _ [1] _ _ _ rfl hk
    · rw [if_neg hc1] at hf
      refine And.intro (by decide) (?_)
      cases hf
      exact hk
  unfold f_247 at hf
  refine hG.1 0 0 kb_247_0 _ _ _ rfl ?_
  obtain ⟨e2, he_e2, hf⟩ := Option.bind_eq_some_iff.mp hf
  refine hG.2 4 _ [1, 2, 3] _ _ _ rfl ?_
  refine hl_4 _ _ _ _ he_e2 ?_
  refine hG.1 2 19 kb_247_19 _ _ _ rfl ?_
  refine And.intro (by decide) (?_)
  cases hf
  exact And.intro (fun z_ => absurd z_ (by decide)) (And.intro rfl rfl)
/-- PointedBenchModel.draw -/
def f_256 (h : pb_HP) (v0 : Nat) (v1 : Int32) : Option (Int32 × pb_HP) :=
  if pb_is h v0 11 then (if ¬ v1 = 0 then (some (((((pb_I (pb_pI h v0 42 (((pb_I h v0 42) * 1103515245) + 12345)) v0 42).toUInt32 >>> (Int32.toUInt32 16 &&& Int32.toUInt32 31)).toInt32) - (((pb_I (pb_pI h v0 42 (((pb_I h v0 42) * 1103515245) + 12345)) v0 42).toUInt32 >>> (Int32.toUInt32 16 &&& Int32.toUInt32 31)).toInt32) / v1 * v1, pb_pI h v0 42 (((pb_I h v0 42) * 1103515245) + 12345)))) else none) else none
set_option maxRecDepth 4000 in
theorem l_256 {xs : List Int32} {d : Nat} {h : pb_HP} {v0 : Nat} {v1 : Int32} {r : Int32} {hE : pb_HP} (hf : f_256 h v0 v1 = some ((r, hE))) : pb_AR xs (d + 1) 256 h [.ref v0, .int v1] (some (.int r)) hE := by
  intro G hG
  have hc_ : pb_CODE 256 = kc_256 := rfl
  rw [hc_] at hG
  unfold f_256 at hf
  refine hG.1 0 0 kb_256_0 _ _ _ rfl ?_
  obtain ⟨hg1, hf⟩ := pb_gd hf
  obtain ⟨hg2, hf⟩ := pb_gd hf
  refine And.intro hg1 (And.intro hg1 (And.intro hg1 (And.intro hg2 (?_))))
  cases hf
  exact And.intro (fun z_ => absurd z_ (by decide)) (And.intro rfl rfl)
def f_266_14s (N : Nat) (h : pb_HP) (v0 : Nat) (v2 : Int32) (s : Int32 × Int32) : Option ((Int32 × Int32) ⊕ (Int32)) :=
  if v2 ≤ s.2 then (some (.inr s.1)) else (if pb_is h v0 11 then ((pb_R h v0 30).bind fun q3 => (if pb_ar h q3 12 v2 then (if pb_ar h q3 12 s.2 then (if ¬ (pb_I h q3 v2.toNatClampNeg) = (pb_I h q3 s.2.toNatClampNeg) then (some (.inl ((s.1 + 0, s.2 + 1)))) else (some (.inl ((s.1 + 1, s.2 + 1))))) else none) else none)) else none)
def f_266_4s (N : Nat) (h : pb_HP) (v0 : Nat) (s : Int32 × Int32) : Option ((Int32 × Int32) ⊕ (Int32)) :=
  if pb_is h v0 11 then (if (pb_I h v0 24) ≤ s.2 then (some (.inr s.1)) else ((pb_wl (f_266_14s N h v0 s.2) N ((s.1, 0))).bind fun e8 => (some (.inl ((e8, s.2 + 1)))))) else none
/-- PointedBenchModel.twins -/
def f_266 (N : Nat) (h : pb_HP) (v0 : Nat) : Option (Int32) :=
  (pb_wl (f_266_4s N h v0) N ((0, 0))).bind fun e10 => (some e10)
set_option maxRecDepth 4000 in
theorem l_266 {xs : List Int32} {d : Nat} {N : Nat} {h : pb_HP} {v0 : Nat} {r : Int32} (hf : f_266 N h v0 = some r) : pb_AR xs (d + 1) 266 h [.ref v0] (some (.int r)) h := by
  intro G hG
  have hc_ : pb_CODE 266 = kc_266 := rfl
  rw [hc_] at hG
  have hl_14 : ∀ (v0 : Nat) (v2 : Int32) (n_ : Nat) (s : Int32 × Int32) (e : Int32), pb_wl (f_266_14s N h v0 v2) n_ s = some e → G 48 [(0, .ref v0), (1, .int e), (2, .int v2)] [] h → G 14 [(0, .ref v0), (1, .int s.1), (2, .int v2), (3, .int s.2)] [] h := by
    intro v0 v2
    refine pb_wl_ind (I := fun (s : Int32 × Int32) => G 14 [(0, .ref v0), (1, .int s.1), (2, .int v2), (3, .int s.2)] [] h) (K := fun (e : Int32) => G 48 [(0, .ref v0), (1, .int e), (2, .int v2)] [] h) (fun s x hf hk => ?_)
    unfold f_266_14s at hf
    refine hG.1 2 14 kb_266_14 _ _ _ rfl ?_
    refine And.intro (fun (hc7 : v2 ≤ s.2) => ?_) (fun (hc7 : ¬ (v2 ≤ s.2)) => ?_)
    · rw [if_pos hc7] at hf
      cases hf
      exact hG.2 48 _ [0, 1, 2] _ _ _ rfl hk
    · rw [if_neg hc7] at hf
      obtain ⟨hg2, hf⟩ := pb_gd hf
      obtain ⟨q3, eq3, hf⟩ := Option.bind_eq_some_iff.mp hf
      obtain ⟨hg4, hf⟩ := pb_gd hf
      obtain ⟨hg5, hf⟩ := pb_gd hf
      refine And.intro hg2 (Exists.intro q3 (And.intro eq3 (And.intro hg4 (And.intro hg2 (Exists.intro q3 (And.intro eq3 (And.intro hg5 (?_))))))))
      refine And.intro (fun (hc6 : ¬ (pb_I h q3 v2.toNatClampNeg) = (pb_I h q3 s.2.toNatClampNeg)) => ?_) (fun (hc6 : ¬ (¬ (pb_I h q3 v2.toNatClampNeg) = (pb_I h q3 s.2.toNatClampNeg))) => ?_)
      · rw [if_pos hc6] at hf
        refine hG.1 3 39 kb_266_39 _ _ _ rfl ?_
        refine hG.1 4 40 kb_266_40 _ _ _ rfl ?_
        cases hf
        exact hk
      · rw [if_neg hc6] at hf
        refine hG.1 4 40 kb_266_40 _ _ _ rfl ?_
        cases hf
        exact hk
  have hl_4 : ∀ (v0 : Nat) (n_ : Nat) (s : Int32 × Int32) (e : Int32), pb_wl (f_266_4s N h v0) n_ s = some e → G 54 [(1, .int e)] [] h → G 4 [(0, .ref v0), (1, .int s.1), (2, .int s.2)] [] h := by
    intro v0
    refine pb_wl_ind (I := fun (s : Int32 × Int32) => G 4 [(0, .ref v0), (1, .int s.1), (2, .int s.2)] [] h) (K := fun (e : Int32) => G 54 [(1, .int e)] [] h) (fun s x hf hk => ?_)
    unfold f_266_4s at hf
    refine hG.1 1 4 kb_266_4 _ _ _ rfl ?_
    obtain ⟨hg1, hf⟩ := pb_gd hf
    refine And.intro hg1 (?_)
    refine And.intro (fun (hc9 : (pb_I h v0 24) ≤ s.2) => ?_) (fun (hc9 : ¬ ((pb_I h v0 24) ≤ s.2)) => ?_)
    · rw [if_pos hc9] at hf
      cases hf
      exact hG.2 54 _ [1] _ _ _ rfl hk
    · rw [if_neg hc9] at hf
      obtain ⟨e8, he_e8, hf⟩ := Option.bind_eq_some_iff.mp hf
      refine hl_14 _ _ _ _ _ he_e8 ?_
      refine hG.1 5 48 kb_266_48 _ _ _ rfl ?_
      cases hf
      exact hk
  unfold f_266 at hf
  refine hG.1 0 0 kb_266_0 _ _ _ rfl ?_
  obtain ⟨e10, he_e10, hf⟩ := Option.bind_eq_some_iff.mp hf
  refine hl_4 _ _ _ _ he_e10 ?_
  refine hG.1 6 54 kb_266_54 _ _ _ rfl ?_
  cases hf
  exact And.intro (fun z_ => absurd z_ (by decide)) (And.intro rfl rfl)
def f_273_4s (N : Nat) (h : pb_HP) (v0 : Nat) (v1 : Int32) (s : Int32 × Int32) : Option ((Int32 × Int32) ⊕ (Int32)) :=
  if pb_is h v0 11 then (if (pb_I h v0 25) ≤ s.2 then (some (.inr s.1)) else ((pb_R h v0 35).bind fun q2 => (if pb_ar h q2 12 s.2 then (if ¬ (pb_I h q2 s.2.toNatClampNeg) = v1 then (some (.inl ((s.1 ||| 0, s.2 + 1)))) else (some (.inl ((s.1 ||| ((1 : Int32) <<< (s.2 &&& 31)), s.2 + 1))))) else none))) else none
/-- PointedBenchModel.gangOf -/
def f_273 (N : Nat) (h : pb_HP) (v0 : Nat) (v1 : Int32) : Option (Int32) :=
  (pb_wl (f_273_4s N h v0 v1) N ((0, 0))).bind fun e6 => (some e6)
set_option maxRecDepth 4000 in
theorem l_273 {xs : List Int32} {d : Nat} {N : Nat} {h : pb_HP} {v0 : Nat} {v1 : Int32} {r : Int32} (hf : f_273 N h v0 v1 = some r) : pb_AR xs (d + 1) 273 h [.ref v0, .int v1] (some (.int r)) h := by
  intro G hG
  have hc_ : pb_CODE 273 = kc_273 := rfl
  rw [hc_] at hG
  have hl_4 : ∀ (v0 : Nat) (v1 : Int32) (n_ : Nat) (s : Int32 × Int32) (e : Int32), pb_wl (f_273_4s N h v0 v1) n_ s = some e → G 38 [(2, .int e)] [] h → G 4 [(0, .ref v0), (1, .int v1), (2, .int s.1), (3, .int s.2)] [] h := by
    intro v0 v1
    refine pb_wl_ind (I := fun (s : Int32 × Int32) => G 4 [(0, .ref v0), (1, .int v1), (2, .int s.1), (3, .int s.2)] [] h) (K := fun (e : Int32) => G 38 [(2, .int e)] [] h) (fun s x hf hk => ?_)
    unfold f_273_4s at hf
    refine hG.1 1 4 kb_273_4 _ _ _ rfl ?_
    obtain ⟨hg1, hf⟩ := pb_gd hf
    refine And.intro hg1 (?_)
    refine And.intro (fun (hc5 : (pb_I h v0 25) ≤ s.2) => ?_) (fun (hc5 : ¬ ((pb_I h v0 25) ≤ s.2)) => ?_)
    · rw [if_pos hc5] at hf
      cases hf
      exact hG.2 38 _ [2] _ _ _ rfl hk
    · rw [if_neg hc5] at hf
      obtain ⟨q2, eq2, hf⟩ := Option.bind_eq_some_iff.mp hf
      obtain ⟨hg3, hf⟩ := pb_gd hf
      refine And.intro hg1 (Exists.intro q2 (And.intro eq2 (And.intro hg3 (?_))))
      refine And.intro (fun (hc4 : ¬ (pb_I h q2 s.2.toNatClampNeg) = v1) => ?_) (fun (hc4 : ¬ (¬ (pb_I h q2 s.2.toNatClampNeg) = v1)) => ?_)
      · rw [if_pos hc4] at hf
        refine hG.1 2 29 kb_273_29 _ _ _ rfl ?_
        refine hG.1 3 30 kb_273_30 _ _ _ rfl ?_
        cases hf
        exact hk
      · rw [if_neg hc4] at hf
        refine hG.1 3 30 kb_273_30 _ _ _ rfl ?_
        cases hf
        exact hk
  unfold f_273 at hf
  refine hG.1 0 0 kb_273_0 _ _ _ rfl ?_
  obtain ⟨e6, he_e6, hf⟩ := Option.bind_eq_some_iff.mp hf
  refine hl_4 _ _ _ _ _ he_e6 ?_
  refine hG.1 4 38 kb_273_38 _ _ _ rfl ?_
  cases hf
  exact And.intro (fun z_ => absurd z_ (by decide)) (And.intro rfl rfl)
/-- PointedBenchModel.swapRow -/
def f_281 (h : pb_HP) (v0 : Nat) (v1 : Int32) (v2 : Int32) : Option (pb_HP) :=
  if pb_is h v0 11 then ((pb_R h v0 43).bind fun q2 => (if pb_ar h q2 12 v1 then (if pb_ar h q2 12 v2 then (some (pb_pI (pb_pI h q2 v1.toNatClampNeg (pb_I h q2 v2.toNatClampNeg)) q2 v2.toNatClampNeg (pb_I h q2 v1.toNatClampNeg))) else none) else none)) else none
set_option maxRecDepth 4000 in
theorem l_281 {xs : List Int32} {d : Nat} {h : pb_HP} {v0 : Nat} {v1 : Int32} {v2 : Int32} {hE : pb_HP} (hf : f_281 h v0 v1 v2 = some hE) : pb_AR xs (d + 1) 281 h [.ref v0, .int v1, .int v2] none hE := by
  intro G hG
  have hc_ : pb_CODE 281 = kc_281 := rfl
  rw [hc_] at hG
  unfold f_281 at hf
  refine hG.1 0 0 kb_281_0 _ _ _ rfl ?_
  obtain ⟨hg1, hf⟩ := pb_gd hf
  obtain ⟨q2, eq2, hf⟩ := Option.bind_eq_some_iff.mp hf
  obtain ⟨hg3, hf⟩ := pb_gd hf
  obtain ⟨hg4, hf⟩ := pb_gd hf
  refine And.intro hg1 (Exists.intro q2 (And.intro eq2 (And.intro hg3 (And.intro hg1 (Exists.intro q2 (And.intro eq2 (And.intro hg1 (Exists.intro q2 (And.intro eq2 (And.intro hg4 (And.intro hg3 (And.intro hg1 (Exists.intro q2 (And.intro eq2 (And.intro hg4 (?_))))))))))))))))
  cases hf
  exact And.intro rfl rfl
def f_288_4s (N : Nat) (h : pb_HP) (v0 : Nat) (s : Int32 × Int32) : Option ((Int32 × Int32) ⊕ (Int32)) :=
  if pb_is h v0 11 then (if (pb_I h v0 25) ≤ s.2 then (some (.inr s.1)) else ((pb_R h v0 32).bind fun q2 => (if pb_ar h q2 12 s.2 then (if (pb_I h q2 s.2.toNatClampNeg) ≤ 0 then (some (.inl ((s.1 ||| 0, s.2 + 1)))) else (some (.inl ((s.1 ||| ((1 : Int32) <<< (s.2 &&& 31)), s.2 + 1))))) else none))) else none
/-- PointedBenchModel.insiders -/
def f_288 (N : Nat) (h : pb_HP) (v0 : Nat) : Option (Int32) :=
  (pb_wl (f_288_4s N h v0) N ((0, 0))).bind fun e6 => (some e6)
set_option maxRecDepth 4000 in
theorem l_288 {xs : List Int32} {d : Nat} {N : Nat} {h : pb_HP} {v0 : Nat} {r : Int32} (hf : f_288 N h v0 = some r) : pb_AR xs (d + 1) 288 h [.ref v0] (some (.int r)) h := by
  intro G hG
  have hc_ : pb_CODE 288 = kc_288 := rfl
  rw [hc_] at hG
  have hl_4 : ∀ (v0 : Nat) (n_ : Nat) (s : Int32 × Int32) (e : Int32), pb_wl (f_288_4s N h v0) n_ s = some e → G 37 [(1, .int e)] [] h → G 4 [(0, .ref v0), (1, .int s.1), (2, .int s.2)] [] h := by
    intro v0
    refine pb_wl_ind (I := fun (s : Int32 × Int32) => G 4 [(0, .ref v0), (1, .int s.1), (2, .int s.2)] [] h) (K := fun (e : Int32) => G 37 [(1, .int e)] [] h) (fun s x hf hk => ?_)
    unfold f_288_4s at hf
    refine hG.1 1 4 kb_288_4 _ _ _ rfl ?_
    obtain ⟨hg1, hf⟩ := pb_gd hf
    refine And.intro hg1 (?_)
    refine And.intro (fun (hc5 : (pb_I h v0 25) ≤ s.2) => ?_) (fun (hc5 : ¬ ((pb_I h v0 25) ≤ s.2)) => ?_)
    · rw [if_pos hc5] at hf
      cases hf
      exact hG.2 37 _ [1] _ _ _ rfl hk
    · rw [if_neg hc5] at hf
      obtain ⟨q2, eq2, hf⟩ := Option.bind_eq_some_iff.mp hf
      obtain ⟨hg3, hf⟩ := pb_gd hf
      refine And.intro hg1 (Exists.intro q2 (And.intro eq2 (And.intro hg3 (?_))))
      refine And.intro (fun (hc4 : (pb_I h q2 s.2.toNatClampNeg) ≤ 0) => ?_) (fun (hc4 : ¬ ((pb_I h q2 s.2.toNatClampNeg) ≤ 0)) => ?_)
      · rw [if_pos hc4] at hf
        refine hG.1 2 28 kb_288_28 _ _ _ rfl ?_
        refine hG.1 3 29 kb_288_29 _ _ _ rfl ?_
        cases hf
        exact hk
      · rw [if_neg hc4] at hf
        refine hG.1 3 29 kb_288_29 _ _ _ rfl ?_
        cases hf
        exact hk
  unfold f_288 at hf
  refine hG.1 0 0 kb_288_0 _ _ _ rfl ?_
  obtain ⟨e6, he_e6, hf⟩ := Option.bind_eq_some_iff.mp hf
  refine hl_4 _ _ _ _ he_e6 ?_
  refine hG.1 4 37 kb_288_37 _ _ _ rfl ?_
  cases hf
  exact And.intro (fun z_ => absurd z_ (by decide)) (And.intro rfl rfl)
def f_290_12s (N : Nat) (h : pb_HP) (v0 : Nat) (v1 : Int32) (s : Int32) : Option ((Int32) ⊕ ((Int32) ⊕ (Unit))) :=
  if v1 ≤ s then (some (.inr (.inr (())))) else (if pb_is h v0 11 then ((pb_R h v0 43).bind fun q3 => (if pb_ar h q3 12 v1 then (if pb_ar h q3 12 s then (if ¬ (pb_I h q3 v1.toNatClampNeg) = (pb_I h q3 s.toNatClampNeg) then (some (.inl (s + 1))) else (if 6 ≤ (pb_I h q3 v1.toNatClampNeg) then (some (.inl (s + 1))) else ((pb_R h v0 33).bind fun q6 => (if pb_ar h q6 12 v1 then (if pb_ar h q6 12 s then (if ((pb_I h q6 v1.toNatClampNeg) &&& (pb_I h q6 s.toNatClampNeg)) = 0 then (some (.inl (s + 1))) else (some (.inr (.inl 0)))) else none) else none)))) else none) else none)) else none)
def f_290_2s (N : Nat) (h : pb_HP) (v0 : Nat) (s : Int32) : Option ((Int32) ⊕ ((Int32) ⊕ (Unit))) :=
  if pb_is h v0 11 then (if (pb_I h v0 25) ≤ s then (some (.inr (.inr (())))) else ((pb_wl (f_290_12s N h v0 s) N 0).bind fun e13 => (match e13 with | .inl q15 => some (.inr (.inl q15)) | .inr x14 => some (.inl (s + 1))))) else none
/-- PointedBenchModel.isCalm -/
def f_290 (N : Nat) (h : pb_HP) (v0 : Nat) : Option (Int32) :=
  (pb_wl (f_290_2s N h v0) N 0).bind fun e17 => (match e17 with | .inl q19 => some q19 | .inr x18 => some 1)
set_option maxRecDepth 4000 in
theorem l_290 {xs : List Int32} {d : Nat} {N : Nat} {h : pb_HP} {v0 : Nat} {r : Int32} (hf : f_290 N h v0 = some r) : pb_AR xs (d + 1) 290 h [.ref v0] (some (.int r)) h := by
  intro G hG
  have hc_ : pb_CODE 290 = kc_290 := rfl
  rw [hc_] at hG
  have hl_12 : ∀ (v0 : Nat) (v1 : Int32) (n_ : Nat) (s : Int32) (e : (Int32) ⊕ (Unit)), pb_wl (f_290_12s N h v0 v1) n_ s = some e → pb_kk (fun (q_ : Int32) => q_ = r) (fun (x_ : Unit) => G 67 [(0, .ref v0), (1, .int v1)] [] h) e → G 12 [(0, .ref v0), (1, .int v1), (2, .int s)] [] h := by
    intro v0 v1
    refine pb_wl_ind (I := fun (s : Int32) => G 12 [(0, .ref v0), (1, .int v1), (2, .int s)] [] h) (K := fun (e : (Int32) ⊕ (Unit)) => pb_kk (fun (q_ : Int32) => q_ = r) (fun (x_ : Unit) => G 67 [(0, .ref v0), (1, .int v1)] [] h) e) (fun s x hf hk => ?_)
    unfold f_290_12s at hf
    refine hG.1 2 12 kb_290_12 _ _ _ rfl ?_
    refine And.intro (fun (hc12 : v1 ≤ s) => ?_) (fun (hc12 : ¬ (v1 ≤ s)) => ?_)
    · rw [if_pos hc12] at hf
      cases hf
      exact hG.2 67 _ [0, 1] _ _ _ rfl hk
    · rw [if_neg hc12] at hf
      obtain ⟨hg2, hf⟩ := pb_gd hf
      obtain ⟨q3, eq3, hf⟩ := Option.bind_eq_some_iff.mp hf
      obtain ⟨hg4, hf⟩ := pb_gd hf
      obtain ⟨hg5, hf⟩ := pb_gd hf
      refine And.intro hg2 (Exists.intro q3 (And.intro eq3 (And.intro hg4 (And.intro hg2 (Exists.intro q3 (And.intro eq3 (And.intro hg5 (?_))))))))
      refine And.intro (fun (hc11 : ¬ (pb_I h q3 v1.toNatClampNeg) = (pb_I h q3 s.toNatClampNeg)) => ?_) (fun (hc11 : ¬ (¬ (pb_I h q3 v1.toNatClampNeg) = (pb_I h q3 s.toNatClampNeg))) => ?_)
      · rw [if_pos hc11] at hf
        refine hG.1 3 61 kb_290_61 _ _ _ rfl ?_
        cases hf
        exact hk
      · rw [if_neg hc11] at hf
        refine And.intro hg2 (Exists.intro q3 (And.intro eq3 (And.intro hg4 (?_))))
        refine And.intro (fun (hc10 : 6 ≤ (pb_I h q3 v1.toNatClampNeg)) => ?_) (fun (hc10 : ¬ (6 ≤ (pb_I h q3 v1.toNatClampNeg))) => ?_)
        · rw [if_pos hc10] at hf
          refine hG.1 3 61 kb_290_61 _ _ _ rfl ?_
          cases hf
          exact hk
        · rw [if_neg hc10] at hf
          obtain ⟨q6, eq6, hf⟩ := Option.bind_eq_some_iff.mp hf
          obtain ⟨hg7, hf⟩ := pb_gd hf
          obtain ⟨hg8, hf⟩ := pb_gd hf
          refine And.intro hg2 (Exists.intro q6 (And.intro eq6 (And.intro hg7 (And.intro hg2 (Exists.intro q6 (And.intro eq6 (And.intro hg8 (?_))))))))
          refine And.intro (fun (hc9 : ((pb_I h q6 v1.toNatClampNeg) &&& (pb_I h q6 s.toNatClampNeg)) = 0) => ?_) (fun (hc9 : ¬ (((pb_I h q6 v1.toNatClampNeg) &&& (pb_I h q6 s.toNatClampNeg)) = 0)) => ?_)
          · rw [if_pos hc9] at hf
            refine hG.1 3 61 kb_290_61 _ _ _ rfl ?_
            cases hf
            exact hk
          · rw [if_neg hc9] at hf
            cases hf
            cases hk
            exact And.intro (fun _ => Or.inl rfl) (And.intro rfl rfl)
  have hl_2 : ∀ (v0 : Nat) (n_ : Nat) (s : Int32) (e : (Int32) ⊕ (Unit)), pb_wl (f_290_2s N h v0) n_ s = some e → pb_kk (fun (q_ : Int32) => q_ = r) (fun (x_ : Unit) => G 73 [] [] h) e → G 2 [(0, .ref v0), (1, .int s)] [] h := by
    intro v0
    refine pb_wl_ind (I := fun (s : Int32) => G 2 [(0, .ref v0), (1, .int s)] [] h) (K := fun (e : (Int32) ⊕ (Unit)) => pb_kk (fun (q_ : Int32) => q_ = r) (fun (x_ : Unit) => G 73 [] [] h) e) (fun s x hf hk => ?_)
    unfold f_290_2s at hf
    refine hG.1 1 2 kb_290_2 _ _ _ rfl ?_
    obtain ⟨hg1, hf⟩ := pb_gd hf
    refine And.intro hg1 (?_)
    refine And.intro (fun (hc16 : (pb_I h v0 25) ≤ s) => ?_) (fun (hc16 : ¬ ((pb_I h v0 25) ≤ s)) => ?_)
    · rw [if_pos hc16] at hf
      cases hf
      exact hG.2 73 _ [] _ _ _ rfl hk
    · rw [if_neg hc16] at hf
      obtain ⟨e13, he_e13, hf⟩ := Option.bind_eq_some_iff.mp hf
      refine hl_12 _ _ _ _ _ he_e13 ?_
      cases e13 with
      | inl q15 =>
        cases hf
        exact hk
      | inr x14 =>
        try dsimp only at hf
        refine hG.1 4 67 kb_290_67 _ _ _ rfl ?_
        cases hf
        exact hk
  unfold f_290 at hf
  refine hG.1 0 0 kb_290_0 _ _ _ rfl ?_
  obtain ⟨e17, he_e17, hf⟩ := Option.bind_eq_some_iff.mp hf
  refine hl_2 _ _ _ _ he_e17 ?_
  cases e17 with
  | inl q19 =>
    exact Option.some.inj hf
  | inr x18 =>
    try dsimp only at hf
    refine hG.1 5 73 kb_290_73 _ _ _ rfl ?_
    cases hf
    exact And.intro (fun _ => Or.inr rfl) (And.intro rfl rfl)
/-- java/lang/Integer.bitCount -/
def f_305 (v0 : Int32) : Option (Int32) :=
  some ((((((((v0 - (((v0.toUInt32 >>> (Int32.toUInt32 1 &&& Int32.toUInt32 31)).toInt32) &&& 1431655765)) &&& 858993459) + ((((v0 - (((v0.toUInt32 >>> (Int32.toUInt32 1 &&& Int32.toUInt32 31)).toInt32) &&& 1431655765)).toUInt32 >>> (Int32.toUInt32 2 &&& Int32.toUInt32 31)).toInt32) &&& 858993459)) + (((((v0 - (((v0.toUInt32 >>> (Int32.toUInt32 1 &&& Int32.toUInt32 31)).toInt32) &&& 1431655765)) &&& 858993459) + ((((v0 - (((v0.toUInt32 >>> (Int32.toUInt32 1 &&& Int32.toUInt32 31)).toInt32) &&& 1431655765)).toUInt32 >>> (Int32.toUInt32 2 &&& Int32.toUInt32 31)).toInt32) &&& 858993459)).toUInt32 >>> (Int32.toUInt32 4 &&& Int32.toUInt32 31)).toInt32)) &&& 252645135) + (((((((v0 - (((v0.toUInt32 >>> (Int32.toUInt32 1 &&& Int32.toUInt32 31)).toInt32) &&& 1431655765)) &&& 858993459) + ((((v0 - (((v0.toUInt32 >>> (Int32.toUInt32 1 &&& Int32.toUInt32 31)).toInt32) &&& 1431655765)).toUInt32 >>> (Int32.toUInt32 2 &&& Int32.toUInt32 31)).toInt32) &&& 858993459)) + (((((v0 - (((v0.toUInt32 >>> (Int32.toUInt32 1 &&& Int32.toUInt32 31)).toInt32) &&& 1431655765)) &&& 858993459) + ((((v0 - (((v0.toUInt32 >>> (Int32.toUInt32 1 &&& Int32.toUInt32 31)).toInt32) &&& 1431655765)).toUInt32 >>> (Int32.toUInt32 2 &&& Int32.toUInt32 31)).toInt32) &&& 858993459)).toUInt32 >>> (Int32.toUInt32 4 &&& Int32.toUInt32 31)).toInt32)) &&& 252645135).toUInt32 >>> (Int32.toUInt32 8 &&& Int32.toUInt32 31)).toInt32)) + ((((((((v0 - (((v0.toUInt32 >>> (Int32.toUInt32 1 &&& Int32.toUInt32 31)).toInt32) &&& 1431655765)) &&& 858993459) + ((((v0 - (((v0.toUInt32 >>> (Int32.toUInt32 1 &&& Int32.toUInt32 31)).toInt32) &&& 1431655765)).toUInt32 >>> (Int32.toUInt32 2 &&& Int32.toUInt32 31)).toInt32) &&& 858993459)) + (((((v0 - (((v0.toUInt32 >>> (Int32.toUInt32 1 &&& Int32.toUInt32 31)).toInt32) &&& 1431655765)) &&& 858993459) + ((((v0 - (((v0.toUInt32 >>> (Int32.toUInt32 1 &&& Int32.toUInt32 31)).toInt32) &&& 1431655765)).toUInt32 >>> (Int32.toUInt32 2 &&& Int32.toUInt32 31)).toInt32) &&& 858993459)).toUInt32 >>> (Int32.toUInt32 4 &&& Int32.toUInt32 31)).toInt32)) &&& 252645135) + (((((((v0 - (((v0.toUInt32 >>> (Int32.toUInt32 1 &&& Int32.toUInt32 31)).toInt32) &&& 1431655765)) &&& 858993459) + ((((v0 - (((v0.toUInt32 >>> (Int32.toUInt32 1 &&& Int32.toUInt32 31)).toInt32) &&& 1431655765)).toUInt32 >>> (Int32.toUInt32 2 &&& Int32.toUInt32 31)).toInt32) &&& 858993459)) + (((((v0 - (((v0.toUInt32 >>> (Int32.toUInt32 1 &&& Int32.toUInt32 31)).toInt32) &&& 1431655765)) &&& 858993459) + ((((v0 - (((v0.toUInt32 >>> (Int32.toUInt32 1 &&& Int32.toUInt32 31)).toInt32) &&& 1431655765)).toUInt32 >>> (Int32.toUInt32 2 &&& Int32.toUInt32 31)).toInt32) &&& 858993459)).toUInt32 >>> (Int32.toUInt32 4 &&& Int32.toUInt32 31)).toInt32)) &&& 252645135).toUInt32 >>> (Int32.toUInt32 8 &&& Int32.toUInt32 31)).toInt32)).toUInt32 >>> (Int32.toUInt32 16 &&& Int32.toUInt32 31)).toInt32)) &&& 63)
set_option maxRecDepth 4000 in
theorem l_305 {xs : List Int32} {d : Nat} {h : pb_HP} {v0 : Int32} {r : Int32} (hf : f_305 v0 = some r) : pb_AR xs (d + 1) 305 h [.int v0] (some (.int r)) h := by
  intro G hG
  have hc_ : pb_CODE 305 = kc_305 := rfl
  rw [hc_] at hG
  unfold f_305 at hf
  refine hG.1 0 0 kb_305_0 _ _ _ rfl ?_
  cases hf
  exact And.intro (fun z_ => absurd z_ (by decide)) (And.intro rfl rfl)
def f_306_5s (N : Nat) (v0 : Nat) (v1 : Int32) (v3 : Int32) (s : Int32 × pb_HP) : Option ((Int32 × pb_HP) ⊕ (pb_HP)) :=
  if v3 ≤ s.1 then (some (.inr s.2)) else (if pb_ar s.2 v0 12 s.1 then (some (.inl ((s.1 + 1, pb_pI s.2 v0 s.1.toNatClampNeg v1)))) else none)
/-- java/util/Arrays.fill -/
def f_306 (N : Nat) (h : pb_HP) (v0 : Nat) (v1 : Int32) : Option (pb_HP) :=
  if pb_is h v0 12 then ((pb_wl (f_306_5s N v0 v1 (Int32.ofNat (pb_SH v0).2)) N ((0, h))).bind fun e4 => (some e4)) else none
set_option maxRecDepth 4000 in
theorem l_306 {xs : List Int32} {d : Nat} {N : Nat} {h : pb_HP} {v0 : Nat} {v1 : Int32} {hE : pb_HP} (hf : f_306 N h v0 v1 = some hE) : pb_AR xs (d + 1) 306 h [.ref v0, .int v1] none hE := by
  intro G hG
  have hc_ : pb_CODE 306 = kc_306 := rfl
  rw [hc_] at hG
  have hl_5 : ∀ (v0 : Nat) (v1 : Int32) (v3 : Int32) (n_ : Nat) (s : Int32 × pb_HP) (e : pb_HP), pb_wl (f_306_5s N v0 v1 v3) n_ s = some e → G 20 [] [] e → G 5 [(0, .ref v0), (1, .int v1), (2, .int s.1), (3, .int v3)] [] s.2 := by
    intro v0 v1 v3
    refine pb_wl_ind (I := fun (s : Int32 × pb_HP) => G 5 [(0, .ref v0), (1, .int v1), (2, .int s.1), (3, .int v3)] [] s.2) (K := fun (e : pb_HP) => G 20 [] [] e) (fun s x hf hk => ?_)
    unfold f_306_5s at hf
    refine hG.1 1 5 kb_306_5 _ _ _ rfl ?_
    refine And.intro (fun (hc3 : v3 ≤ s.1) => ?_) (fun (hc3 : ¬ (v3 ≤ s.1)) => ?_)
    · rw [if_pos hc3] at hf
      cases hf
      exact hG.2 20 _ [] _ _ _ rfl hk
    · rw [if_neg hc3] at hf
      obtain ⟨hg2, hf⟩ := pb_gd hf
      refine And.intro hg2 (?_)
      cases hf
      exact hk
  unfold f_306 at hf
  refine hG.1 0 0 kb_306_0 _ _ _ rfl ?_
  obtain ⟨hg1, hf⟩ := pb_gd hf
  refine And.intro (And.intro (by decide) (by decide)) (And.intro hg1 (?_))
  obtain ⟨e4, he_e4, hf⟩ := Option.bind_eq_some_iff.mp hf
  refine hl_5 _ _ _ _ _ _ he_e4 ?_
  refine hG.1 2 20 kb_306_20 _ _ _ rfl ?_
  cases hf
  exact And.intro rfl rfl
