def L_Text_append_3 (fu : Nat) (l1_3 : Int64) : Nat → Int32 → Int32 → (Nat → Int32) → Option (Int32 × (Nat → Int32))
  | 0, _, _, _ => none
  | n + 1, l3_3, v_size_3, v_signs_3 => (if l3_3 < 0 then (some (v_size_3, v_signs_3)) else (if (((((l1_3 : Int64).toUInt64 >>> ((l3_3 : Int32).toInt64.toUInt64 &&& Int64.toUInt64 63)).toInt64 : Int64).toInt32) &&& 255) = 0 then ((L_Text_append_3 fu l1_3 n) (l3_3 + (-8)) v_size_3 v_signs_3) else (if 1000 ≤ v_size_3 then ((L_Text_append_3 fu l1_3 n) (l3_3 + (-8)) v_size_3 v_signs_3) else (bd v_size_3 1000 ((L_Text_append_3 fu l1_3 n) (l3_3 + (-8)) (v_size_3 + 1) (upd v_signs_3 (v_size_3 : Int32).toNatClampNeg (vp_nar .char (((((((l1_3 : Int64).toUInt64 >>> ((l3_3 : Int32).toInt64.toUInt64 &&& Int64.toUInt64 63)).toInt64 : Int64).toInt32) &&& 255 : Int32).toUInt32 % 65536).toInt32))))))))
theorem L_Text_append_3_z {fu : Nat} {l1_3 : Int64} {l3_3 : Int32} {v_size_3 : Int32} {v_signs_3 : Nat → Int32} {t : Int32 × (Nat → Int32)} (h : L_Text_append_3 fu l1_3 0 l3_3 v_size_3 v_signs_3 = some t) : False := by cases (show (none : Option (Int32 × (Nat → Int32))) = some t from h)
theorem L_Text_append_3_u {fu : Nat} {l1_3 : Int64} {n : Nat} {l3_3 : Int32} {v_size_3 : Int32} {v_signs_3 : Nat → Int32} {t : Int32 × (Nat → Int32)} (h : L_Text_append_3 fu l1_3 (n + 1) l3_3 v_size_3 v_signs_3 = some t) : (if l3_3 < 0 then (some (v_size_3, v_signs_3)) else (if (((((l1_3 : Int64).toUInt64 >>> ((l3_3 : Int32).toInt64.toUInt64 &&& Int64.toUInt64 63)).toInt64 : Int64).toInt32) &&& 255) = 0 then ((L_Text_append_3 fu l1_3 n) (l3_3 + (-8)) v_size_3 v_signs_3) else (if 1000 ≤ v_size_3 then ((L_Text_append_3 fu l1_3 n) (l3_3 + (-8)) v_size_3 v_signs_3) else (bd v_size_3 1000 ((L_Text_append_3 fu l1_3 n) (l3_3 + (-8)) (v_size_3 + 1) (upd v_signs_3 (v_size_3 : Int32).toNatClampNeg (vp_nar .char (((((((l1_3 : Int64).toUInt64 >>> ((l3_3 : Int32).toInt64.toUInt64 &&& Int64.toUInt64 63)).toInt64 : Int64).toInt32) &&& 255 : Int32).toUInt32 % 65536).toInt32)))))))) = some t := h
def f_Text_append (fu : Nat) (v_size : Int32) (v_signs : Nat → Int32) (p1 : Int64) : Option (Int32 × (Nat → Int32)) :=
  (L_Text_append_3 fu p1 fu 56 v_size v_signs)
theorem f_Text_append_u {fu : Nat} {v_size : Int32} {v_signs : Nat → Int32} {p1 : Int64} {t : Int32 × (Nat → Int32)} (h : f_Text_append fu v_size v_signs p1 = some t) : (L_Text_append_3 fu p1 fu 56 v_size v_signs) = some t := h
def f_Text_signAt (v_size : Int32) (v_signs : Nat → Int32) (p1 : Int32) : Option (Int32) :=
  (if v_size ≤ p1 then (some 32) else (bd p1 1000 (zc (v_signs (p1 : Int32).toNatClampNeg) (some (v_signs (p1 : Int32).toNatClampNeg)))))
theorem f_Text_signAt_u {v_size : Int32} {v_signs : Nat → Int32} {p1 : Int32} {t : Int32} (h : f_Text_signAt v_size v_signs p1 = some t) : (if v_size ≤ p1 then (some 32) else (bd p1 1000 (zc (v_signs (p1 : Int32).toNatClampNeg) (some (v_signs (p1 : Int32).toNatClampNeg))))) = some t := h
def f_Text_isLetter (p1 : Int32) : Option (Int32) :=
  (if p1 < 97 then (some 0) else (if 122 < p1 then (some 0) else (some 1)))
theorem f_Text_isLetter_u {p1 : Int32} {t : Int32} (h : f_Text_isLetter p1 = some t) : (if p1 < 97 then (some 0) else (if 122 < p1 then (some 0) else (some 1))) = some t := h
def f_Text_isDigit (p1 : Int32) : Option (Int32) :=
  (if p1 < 48 then (some 0) else (if 57 < p1 then (some 0) else (some 1)))
theorem f_Text_isDigit_u {p1 : Int32} {t : Int32} (h : f_Text_isDigit p1 = some t) : (if p1 < 48 then (some 0) else (if 57 < p1 then (some 0) else (some 1))) = some t := h
def L_Text_readDigits_7 (fu : Nat) (v_size : Int32) (v_signs : Nat → Int32) : Nat → Int32 → Int32 → Int32 → Option (Int32 × Int32 × Int32)
  | 0, _, _, _ => none
  | n + 1, l1_7, v_at_7, v_amount_7 => (if v_size ≤ v_at_7 then (some (l1_7, v_at_7, v_amount_7)) else (bd v_at_7 1000 ((f_Text_isDigit (v_signs (v_at_7 : Int32).toNatClampNeg)).bind (fun t_3 => (if t_3 = 0 then (some (l1_7, v_at_7, v_amount_7)) else (if 7 ≤ l1_7 then ((L_Text_readDigits_7 fu v_size v_signs n) (l1_7 + 1) (v_at_7 + 1) v_amount_7) else (bd v_at_7 1000 ((L_Text_readDigits_7 fu v_size v_signs n) (l1_7 + 1) (v_at_7 + 1) ((v_amount_7 * 10) + ((v_signs (v_at_7 : Int32).toNatClampNeg) - 48))))))))))
theorem L_Text_readDigits_7_z {fu : Nat} {v_size : Int32} {v_signs : Nat → Int32} {l1_7 : Int32} {v_at_7 : Int32} {v_amount_7 : Int32} {t : Int32 × Int32 × Int32} (h : L_Text_readDigits_7 fu v_size v_signs 0 l1_7 v_at_7 v_amount_7 = some t) : False := by cases (show (none : Option (Int32 × Int32 × Int32)) = some t from h)
theorem L_Text_readDigits_7_u {fu : Nat} {v_size : Int32} {v_signs : Nat → Int32} {n : Nat} {l1_7 : Int32} {v_at_7 : Int32} {v_amount_7 : Int32} {t : Int32 × Int32 × Int32} (h : L_Text_readDigits_7 fu v_size v_signs (n + 1) l1_7 v_at_7 v_amount_7 = some t) : (if v_size ≤ v_at_7 then (some (l1_7, v_at_7, v_amount_7)) else (bd v_at_7 1000 ((f_Text_isDigit (v_signs (v_at_7 : Int32).toNatClampNeg)).bind (fun t_3 => (if t_3 = 0 then (some (l1_7, v_at_7, v_amount_7)) else (if 7 ≤ l1_7 then ((L_Text_readDigits_7 fu v_size v_signs n) (l1_7 + 1) (v_at_7 + 1) v_amount_7) else (bd v_at_7 1000 ((L_Text_readDigits_7 fu v_size v_signs n) (l1_7 + 1) (v_at_7 + 1) ((v_amount_7 * 10) + ((v_signs (v_at_7 : Int32).toNatClampNeg) - 48)))))))))) = some t := h
def f_Text_readDigits (fu : Nat) (v_size : Int32) (v_at : Int32) (v_amount : Int32) (v_signs : Nat → Int32) : Option (Int32 × Int32 × Int32) :=
  (L_Text_readDigits_7 fu v_size v_signs fu 0 v_at 0)
theorem f_Text_readDigits_u {fu : Nat} {v_size : Int32} {v_at : Int32} {v_amount : Int32} {v_signs : Nat → Int32} {t : Int32 × Int32 × Int32} (h : f_Text_readDigits fu v_size v_at v_amount v_signs = some t) : (L_Text_readDigits_7 fu v_size v_signs fu 0 v_at 0) = some t := h
def f_Text_readPoint (fu : Nat) (v_size : Int32) (v_at : Int32) (v_kind : Int32) (v_amount : Int32) (v_signs : Nat → Int32) : Option (Int32 × Int32 × Int32) :=
  ((f_Text_readDigits fu v_size (v_at + 1) v_amount v_signs).bind (fun t_1 => (if t_1.1 ≤ 0 then (if (0 : Int32) = 0 then (some (t_1.2.1, 1, t_1.2.2)) else (some (t_1.2.1, 4, t_1.2.2))) else (if 2 < t_1.1 then (if (0 : Int32) = 0 then (some (t_1.2.1, 1, t_1.2.2)) else (some (t_1.2.1, 4, t_1.2.2))) else ((f_FaultRules_isPoint t_1.2.2).bind (fun t_6 => (if t_6 = 0 then (if (0 : Int32) = 0 then (some (t_1.2.1, 1, t_1.2.2)) else (some (t_1.2.1, 4, t_1.2.2))) else (if (1 : Int32) = 0 then (some (t_1.2.1, 1, t_1.2.2)) else (some (t_1.2.1, 4, t_1.2.2))))))))))
theorem f_Text_readPoint_u {fu : Nat} {v_size : Int32} {v_at : Int32} {v_kind : Int32} {v_amount : Int32} {v_signs : Nat → Int32} {t : Int32 × Int32 × Int32} (h : f_Text_readPoint fu v_size v_at v_kind v_amount v_signs = some t) : ((f_Text_readDigits fu v_size (v_at + 1) v_amount v_signs).bind (fun t_1 => (if t_1.1 ≤ 0 then (if (0 : Int32) = 0 then (some (t_1.2.1, 1, t_1.2.2)) else (some (t_1.2.1, 4, t_1.2.2))) else (if 2 < t_1.1 then (if (0 : Int32) = 0 then (some (t_1.2.1, 1, t_1.2.2)) else (some (t_1.2.1, 4, t_1.2.2))) else ((f_FaultRules_isPoint t_1.2.2).bind (fun t_6 => (if t_6 = 0 then (if (0 : Int32) = 0 then (some (t_1.2.1, 1, t_1.2.2)) else (some (t_1.2.1, 4, t_1.2.2))) else (if (1 : Int32) = 0 then (some (t_1.2.1, 1, t_1.2.2)) else (some (t_1.2.1, 4, t_1.2.2)))))))))) = some t := h
def f_Text_kindOfLetters (p1 : Int64) : Option (Int32) :=
  (if (lg_cmp p1 7381243658609098752) = 0 then (some 9) else (if (lg_cmp p1 7165072476152528896) = 0 then (some 10) else (if (lg_cmp p1 8319403481517522944) = 0 then (some 16) else (if (lg_cmp p1 7671157868099272704) = 0 then (some 17) else (if (lg_cmp p1 8316297369816924160) = 0 then (some 18) else (some 2))))))
theorem f_Text_kindOfLetters_u {p1 : Int64} {t : Int32} (h : f_Text_kindOfLetters p1 = some t) : (if (lg_cmp p1 7381243658609098752) = 0 then (some 9) else (if (lg_cmp p1 7165072476152528896) = 0 then (some 10) else (if (lg_cmp p1 8319403481517522944) = 0 then (some 16) else (if (lg_cmp p1 7671157868099272704) = 0 then (some 17) else (if (lg_cmp p1 8316297369816924160) = 0 then (some 18) else (some 2)))))) = some t := h
def L_Text_readLetters_7 (fu : Nat) (v_size : Int32) (v_signs : Nat → Int32) (k_82 : Int32 → (Int32) → (Int64) → Option (Int32 × Int32 × Int64)) : Nat → Int32 → Int32 → Int64 → Option (Int32 × Int32 × Int64)
  | 0, _, _, _ => none
  | n + 1, l1_7, v_at_7, v_letters_7 => (if v_size ≤ v_at_7 then (k_82 l1_7 v_at_7 v_letters_7) else (bd v_at_7 1000 ((f_Text_isLetter (v_signs (v_at_7 : Int32).toNatClampNeg)).bind (fun t_3 => (if t_3 = 0 then (k_82 l1_7 v_at_7 v_letters_7) else (if 8 ≤ l1_7 then ((L_Text_readLetters_7 fu v_size v_signs k_82 n) (l1_7 + 1) (v_at_7 + 1) v_letters_7) else (bd v_at_7 1000 ((L_Text_readLetters_7 fu v_size v_signs k_82 n) (l1_7 + 1) (v_at_7 + 1) (v_letters_7 ||| (((v_signs (v_at_7 : Int32).toNatClampNeg : Int32).toInt64) <<< ((56 - (8 * l1_7) : Int32).toInt64 &&& 63)))))))))))
theorem L_Text_readLetters_7_z {fu : Nat} {v_size : Int32} {v_signs : Nat → Int32} {k_82 : Int32 → (Int32) → (Int64) → Option (Int32 × Int32 × Int64)} {l1_7 : Int32} {v_at_7 : Int32} {v_letters_7 : Int64} {t : Int32 × Int32 × Int64} (h : L_Text_readLetters_7 fu v_size v_signs k_82 0 l1_7 v_at_7 v_letters_7 = some t) : False := by cases (show (none : Option (Int32 × Int32 × Int64)) = some t from h)
theorem L_Text_readLetters_7_u {fu : Nat} {v_size : Int32} {v_signs : Nat → Int32} {k_82 : Int32 → (Int32) → (Int64) → Option (Int32 × Int32 × Int64)} {n : Nat} {l1_7 : Int32} {v_at_7 : Int32} {v_letters_7 : Int64} {t : Int32 × Int32 × Int64} (h : L_Text_readLetters_7 fu v_size v_signs k_82 (n + 1) l1_7 v_at_7 v_letters_7 = some t) : (if v_size ≤ v_at_7 then (k_82 l1_7 v_at_7 v_letters_7) else (bd v_at_7 1000 ((f_Text_isLetter (v_signs (v_at_7 : Int32).toNatClampNeg)).bind (fun t_3 => (if t_3 = 0 then (k_82 l1_7 v_at_7 v_letters_7) else (if 8 ≤ l1_7 then ((L_Text_readLetters_7 fu v_size v_signs k_82 n) (l1_7 + 1) (v_at_7 + 1) v_letters_7) else (bd v_at_7 1000 ((L_Text_readLetters_7 fu v_size v_signs k_82 n) (l1_7 + 1) (v_at_7 + 1) (v_letters_7 ||| (((v_signs (v_at_7 : Int32).toNatClampNeg : Int32).toInt64) <<< ((56 - (8 * l1_7) : Int32).toInt64 &&& 63))))))))))) = some t := h
def f_Text_readLetters (fu : Nat) (v_size : Int32) (v_at : Int32) (v_kind : Int32) (v_letters : Int64) (v_signs : Nat → Int32) : Option (Int32 × Int32 × Int64) :=
  (L_Text_readLetters_7 fu v_size v_signs (fun (l1_7x7 : Int32) (v_at_7x8 : Int32) (v_letters_7x9 : Int64) => (if 8 < l1_7x7 then (some (v_at_7x8, 1, v_letters_7x9)) else ((f_Text_kindOfLetters v_letters_7x9).bind (fun t_11 => (some (v_at_7x8, t_11, v_letters_7x9)))))) fu 0 v_at 0)
theorem f_Text_readLetters_u {fu : Nat} {v_size : Int32} {v_at : Int32} {v_kind : Int32} {v_letters : Int64} {v_signs : Nat → Int32} {t : Int32 × Int32 × Int64} (h : f_Text_readLetters fu v_size v_at v_kind v_letters v_signs = some t) : (L_Text_readLetters_7 fu v_size v_signs (fun (l1_7x7 : Int32) (v_at_7x8 : Int32) (v_letters_7x9 : Int64) => (if 8 < l1_7x7 then (some (v_at_7x8, 1, v_letters_7x9)) else ((f_Text_kindOfLetters v_letters_7x9).bind (fun t_11 => (some (v_at_7x8, t_11, v_letters_7x9)))))) fu 0 v_at 0) = some t := h
def f_Text_readNumber (fu : Nat) (v_size : Int32) (v_at : Int32) (v_kind : Int32) (v_amount : Int32) (v_signs : Nat → Int32) : Option (Int32 × Int32 × Int32) :=
  ((f_Text_readDigits fu v_size v_at v_amount v_signs).bind (fun t_1 => (if 7 < t_1.1 then (some (t_1.2.1, 1, t_1.2.2)) else (if 1000000 < t_1.2.2 then (some (t_1.2.1, 1, t_1.2.2)) else (some (t_1.2.1, 3, t_1.2.2))))))
theorem f_Text_readNumber_u {fu : Nat} {v_size : Int32} {v_at : Int32} {v_kind : Int32} {v_amount : Int32} {v_signs : Nat → Int32} {t : Int32 × Int32 × Int32} (h : f_Text_readNumber fu v_size v_at v_kind v_amount v_signs = some t) : ((f_Text_readDigits fu v_size v_at v_amount v_signs).bind (fun t_1 => (if 7 < t_1.1 then (some (t_1.2.1, 1, t_1.2.2)) else (if 1000000 < t_1.2.2 then (some (t_1.2.1, 1, t_1.2.2)) else (some (t_1.2.1, 3, t_1.2.2)))))) = some t := h
def f_Text_kindOfSign (p1 : Int32) : Option (Int32) :=
  (if p1 = 38 then (some 6) else (if p1 = 39 then (some 1) else (if p1 = 40 then (some 1) else (if p1 = 41 then (some 1) else (if p1 = 42 then (some 1) else (if p1 = 43 then (some 1) else (if p1 = 44 then (some 1) else (if p1 = 45 then (some 8) else (if p1 = 46 then (some 1) else (if p1 = 47 then (some 1) else (if p1 = 48 then (some 1) else (if p1 = 49 then (some 1) else (if p1 = 50 then (some 1) else (if p1 = 51 then (some 1) else (if p1 = 52 then (some 1) else (if p1 = 53 then (some 1) else (if p1 = 54 then (some 1) else (if p1 = 55 then (some 1) else (if p1 = 56 then (some 1) else (if p1 = 57 then (some 1) else (if p1 = 58 then (some 5) else (if p1 = 59 then (some 7) else (if p1 = 60 then (some 11) else (if p1 = 61 then (some 13) else (if p1 = 62 then (some 15) else (some 1))))))))))))))))))))))))))
theorem f_Text_kindOfSign_u {p1 : Int32} {t : Int32} (h : f_Text_kindOfSign p1 = some t) : (if p1 = 38 then (some 6) else (if p1 = 39 then (some 1) else (if p1 = 40 then (some 1) else (if p1 = 41 then (some 1) else (if p1 = 42 then (some 1) else (if p1 = 43 then (some 1) else (if p1 = 44 then (some 1) else (if p1 = 45 then (some 8) else (if p1 = 46 then (some 1) else (if p1 = 47 then (some 1) else (if p1 = 48 then (some 1) else (if p1 = 49 then (some 1) else (if p1 = 50 then (some 1) else (if p1 = 51 then (some 1) else (if p1 = 52 then (some 1) else (if p1 = 53 then (some 1) else (if p1 = 54 then (some 1) else (if p1 = 55 then (some 1) else (if p1 = 56 then (some 1) else (if p1 = 57 then (some 1) else (if p1 = 58 then (some 5) else (if p1 = 59 then (some 7) else (if p1 = 60 then (some 11) else (if p1 = 61 then (some 13) else (if p1 = 62 then (some 15) else (some 1)))))))))))))))))))))))))) = some t := h
def J_Text_readSign_28 (v_at : Int32) (v_kind : Int32) (l1_j28 : Int32) (s0_j28 : Int32) : Option (Int32 × Int32) :=
  (if s0_j28 = 0 then ((f_Text_kindOfSign l1_j28).bind (fun t_3 => (some (v_at, t_3)))) else (if l1_j28 = 60 then (if l1_j28 = 60 then (some (v_at + 1, 12)) else (some (v_at + 1, 14))) else (if l1_j28 = 62 then (if l1_j28 = 60 then (some (v_at + 1, 12)) else (some (v_at + 1, 14))) else ((f_Text_kindOfSign l1_j28).bind (fun t_7 => (some (v_at, t_7)))))))
theorem J_Text_readSign_28_u {v_at : Int32} {v_kind : Int32} {l1_j28 : Int32} {s0_j28 : Int32} {t : Int32 × Int32} (h : J_Text_readSign_28 v_at v_kind l1_j28 s0_j28 = some t) : (if s0_j28 = 0 then ((f_Text_kindOfSign l1_j28).bind (fun t_3 => (some (v_at, t_3)))) else (if l1_j28 = 60 then (if l1_j28 = 60 then (some (v_at + 1, 12)) else (some (v_at + 1, 14))) else (if l1_j28 = 62 then (if l1_j28 = 60 then (some (v_at + 1, 12)) else (some (v_at + 1, 14))) else ((f_Text_kindOfSign l1_j28).bind (fun t_7 => (some (v_at, t_7))))))) = some t := h
def f_Text_readSign (v_size : Int32) (v_at : Int32) (v_kind : Int32) (v_signs : Nat → Int32) (p1 : Int32) : Option (Int32 × Int32) :=
  ((f_Text_signAt v_size v_signs (v_at + 1)).bind (fun t_1 => (if t_1 = 61 then (J_Text_readSign_28 (v_at + 1) v_kind p1 1) else (J_Text_readSign_28 (v_at + 1) v_kind p1 0))))
theorem f_Text_readSign_u {v_size : Int32} {v_at : Int32} {v_kind : Int32} {v_signs : Nat → Int32} {p1 : Int32} {t : Int32 × Int32} (h : f_Text_readSign v_size v_at v_kind v_signs p1 = some t) : ((f_Text_signAt v_size v_signs (v_at + 1)).bind (fun t_1 => (if t_1 = 61 then (J_Text_readSign_28 (v_at + 1) v_kind p1 1) else (J_Text_readSign_28 (v_at + 1) v_kind p1 0)))) = some t := h
def L_Text_readNext_0 (fu : Nat) (v_size : Int32) (v_signs : Nat → Int32) (k_38 : (Int32) → Option (Int32 × Int32 × Int32 × Int64)) : Nat → Int32 → Option (Int32 × Int32 × Int32 × Int64)
  | 0, _ => none
  | n + 1, v_at_0 => (if v_size ≤ v_at_0 then (k_38 v_at_0) else (bd v_at_0 1000 (if (v_signs (v_at_0 : Int32).toNatClampNeg) = 32 then ((L_Text_readNext_0 fu v_size v_signs k_38 n) (v_at_0 + 1)) else (k_38 v_at_0))))
theorem L_Text_readNext_0_z {fu : Nat} {v_size : Int32} {v_signs : Nat → Int32} {k_38 : (Int32) → Option (Int32 × Int32 × Int32 × Int64)} {v_at_0 : Int32} {t : Int32 × Int32 × Int32 × Int64} (h : L_Text_readNext_0 fu v_size v_signs k_38 0 v_at_0 = some t) : False := by cases (show (none : Option (Int32 × Int32 × Int32 × Int64)) = some t from h)
theorem L_Text_readNext_0_u {fu : Nat} {v_size : Int32} {v_signs : Nat → Int32} {k_38 : (Int32) → Option (Int32 × Int32 × Int32 × Int64)} {n : Nat} {v_at_0 : Int32} {t : Int32 × Int32 × Int32 × Int64} (h : L_Text_readNext_0 fu v_size v_signs k_38 (n + 1) v_at_0 = some t) : (if v_size ≤ v_at_0 then (k_38 v_at_0) else (bd v_at_0 1000 (if (v_signs (v_at_0 : Int32).toNatClampNeg) = 32 then ((L_Text_readNext_0 fu v_size v_signs k_38 n) (v_at_0 + 1)) else (k_38 v_at_0)))) = some t := h
def f_Text_readNext (fu : Nat) (v_size : Int32) (v_at : Int32) (v_kind : Int32) (v_amount : Int32) (v_letters : Int64) (v_signs : Nat → Int32) : Option (Int32 × Int32 × Int32 × Int64) :=
  (L_Text_readNext_0 fu v_size v_signs (fun (v_at_0x4 : Int32) => ((f_Text_signAt v_size v_signs v_at_0x4).bind (fun t_5 => (if v_at_0x4 < v_size then (if t_5 = 112 then ((f_Text_signAt v_size v_signs (v_at_0x4 + 1)).bind (fun t_15 => ((f_Text_isLetter t_15).bind (fun t_16 => (if t_16 = 0 then ((f_Text_readPoint fu v_size v_at_0x4 v_kind v_amount v_signs).bind (fun t_25 => (some (t_25.1, t_25.2.1, t_25.2.2, v_letters)))) else ((f_Text_isLetter t_5).bind (fun t_18 => (if t_18 = 0 then ((f_Text_isDigit t_5).bind (fun t_20 => (if t_20 = 0 then ((f_Text_readSign v_size v_at_0x4 v_kind v_signs t_5).bind (fun t_22 => (some (t_22.1, t_22.2, v_amount, v_letters)))) else ((f_Text_readNumber fu v_size v_at_0x4 v_kind v_amount v_signs).bind (fun t_23 => (some (t_23.1, t_23.2.1, t_23.2.2, v_letters))))))) else ((f_Text_readLetters fu v_size v_at_0x4 v_kind v_letters v_signs).bind (fun t_24 => (some (t_24.1, t_24.2.1, v_amount, t_24.2.2)))))))))))) else ((f_Text_isLetter t_5).bind (fun t_8 => (if t_8 = 0 then ((f_Text_isDigit t_5).bind (fun t_10 => (if t_10 = 0 then ((f_Text_readSign v_size v_at_0x4 v_kind v_signs t_5).bind (fun t_12 => (some (t_12.1, t_12.2, v_amount, v_letters)))) else ((f_Text_readNumber fu v_size v_at_0x4 v_kind v_amount v_signs).bind (fun t_13 => (some (t_13.1, t_13.2.1, t_13.2.2, v_letters))))))) else ((f_Text_readLetters fu v_size v_at_0x4 v_kind v_letters v_signs).bind (fun t_14 => (some (t_14.1, t_14.2.1, v_amount, t_14.2.2)))))))) else (some (v_at_0x4, 0, v_amount, v_letters)))))) fu v_at)
theorem f_Text_readNext_u {fu : Nat} {v_size : Int32} {v_at : Int32} {v_kind : Int32} {v_amount : Int32} {v_letters : Int64} {v_signs : Nat → Int32} {t : Int32 × Int32 × Int32 × Int64} (h : f_Text_readNext fu v_size v_at v_kind v_amount v_letters v_signs = some t) : (L_Text_readNext_0 fu v_size v_signs (fun (v_at_0x4 : Int32) => ((f_Text_signAt v_size v_signs v_at_0x4).bind (fun t_5 => (if v_at_0x4 < v_size then (if t_5 = 112 then ((f_Text_signAt v_size v_signs (v_at_0x4 + 1)).bind (fun t_15 => ((f_Text_isLetter t_15).bind (fun t_16 => (if t_16 = 0 then ((f_Text_readPoint fu v_size v_at_0x4 v_kind v_amount v_signs).bind (fun t_25 => (some (t_25.1, t_25.2.1, t_25.2.2, v_letters)))) else ((f_Text_isLetter t_5).bind (fun t_18 => (if t_18 = 0 then ((f_Text_isDigit t_5).bind (fun t_20 => (if t_20 = 0 then ((f_Text_readSign v_size v_at_0x4 v_kind v_signs t_5).bind (fun t_22 => (some (t_22.1, t_22.2, v_amount, v_letters)))) else ((f_Text_readNumber fu v_size v_at_0x4 v_kind v_amount v_signs).bind (fun t_23 => (some (t_23.1, t_23.2.1, t_23.2.2, v_letters))))))) else ((f_Text_readLetters fu v_size v_at_0x4 v_kind v_letters v_signs).bind (fun t_24 => (some (t_24.1, t_24.2.1, v_amount, t_24.2.2)))))))))))) else ((f_Text_isLetter t_5).bind (fun t_8 => (if t_8 = 0 then ((f_Text_isDigit t_5).bind (fun t_10 => (if t_10 = 0 then ((f_Text_readSign v_size v_at_0x4 v_kind v_signs t_5).bind (fun t_12 => (some (t_12.1, t_12.2, v_amount, v_letters)))) else ((f_Text_readNumber fu v_size v_at_0x4 v_kind v_amount v_signs).bind (fun t_13 => (some (t_13.1, t_13.2.1, t_13.2.2, v_letters))))))) else ((f_Text_readLetters fu v_size v_at_0x4 v_kind v_letters v_signs).bind (fun t_14 => (some (t_14.1, t_14.2.1, v_amount, t_14.2.2)))))))) else (some (v_at_0x4, 0, v_amount, v_letters)))))) fu v_at) = some t := h
def f_Text_readFirst (fu : Nat) (v_size : Int32) (v_at : Int32) (v_kind : Int32) (v_amount : Int32) (v_letters : Int64) (v_signs : Nat → Int32) : Option (Int32 × Int32 × Int32 × Int64) :=
  ((f_Text_readNext fu v_size 0 v_kind v_amount v_letters v_signs).bind (fun t_1 => (some (t_1.1, t_1.2.1, t_1.2.2.1, t_1.2.2.2))))
theorem f_Text_readFirst_u {fu : Nat} {v_size : Int32} {v_at : Int32} {v_kind : Int32} {v_amount : Int32} {v_letters : Int64} {v_signs : Nat → Int32} {t : Int32 × Int32 × Int32 × Int64} (h : f_Text_readFirst fu v_size v_at v_kind v_amount v_letters v_signs = some t) : ((f_Text_readNext fu v_size 0 v_kind v_amount v_letters v_signs).bind (fun t_1 => (some (t_1.1, t_1.2.1, t_1.2.2.1, t_1.2.2.2)))) = some t := h
def rm_Text_append : Room := { frames := 0, cells := 0, slots := 0, locals := 0 }
set_option maxHeartbeats 4000000 in
set_option maxRecDepth 100000 in
theorem c_Text_append (l : Launch) (dC : Nat → ClassId) (dI : Nat → Nat → Nat) (cI cL cC : ClassId) (h_this h_signs : Nat) (sz : Nat) (fu : Nat) (v_size : Int32) (v_at : Int32) (v_kind : Int32) (v_amount : Int32) (v_letters : Int64) (v_signs : Nat → Int32) (p1 : Int64) (t : Int32 × (Nat → Int32)) (hf : f_Text_append fu v_size v_signs p1 = some t) : Met l y_Text_append (Cond.code y_Text_append prog_7_method_2_code 5 none :: xT) rm_Text_append (va_Pc [.ref h_this, .long p1] (xP (dC, dI) (xTy cI cL cC) [(h_this, .inr (5, [.ref h_signs, .int v_size, .int v_at, .int v_kind, .int v_amount, .long v_letters])), (h_signs, .inl (cC, 1000, .inl v_signs))] sz)) (xQ (dC, dI) [(h_this, .inr (5, [.ref h_signs, .int t.1, .int v_at, .int v_kind, .int v_amount, .long v_letters])), (h_signs, .inl (cC, 1000, .inl t.2))] (va_A [(h_this, .inr (5, [.ref h_signs, .int v_size, .int v_at, .int v_kind, .int v_amount, .long v_letters])), (h_signs, .inl (cC, 1000, .inl v_signs))] sz) (none)) 0 0 (va_A [(h_this, .inr (5, [.ref h_signs, .int v_size, .int v_at, .int v_kind, .int v_amount, .long v_letters])), (h_signs, .inl (cC, 1000, .inl v_signs))] sz) := by
  refine Met.ofW (cc := prog_7_method_2_code) (maxL := 5) (ret := none) (by decide) rfl ?_
  intro p e s m args below meth c s₁ B hml hv
  obtain ⟨hargs, hsz, hP, hK, hN, hD0⟩ := hv
  have hx := B.exec
  have hb := B.bytes
  have hr := B.returns
  have hT : ∀ w ∈ xT, w.before args s = true := fun w hw => atoms_spec (ws := Cond.code y_Text_append prog_7_method_2_code 5 none :: xT) B.pre w (List.mem_cons_of_mem _ hw)
  have hown : s.vm.findClass R_Text = some m.cls := findClass_of_methodNamed B.named
  have hlocks := B.notSynchronized
  subst hsz
  have hD := hD0.self (sz := s.heap.size)
  generalize hAe : va_A [(h_this, .inr (5, [.ref h_signs, .int v_size, .int v_at, .int v_kind, .int v_amount, .long v_letters])), (h_signs, .inl (cC, 1000, .inl v_signs))] s.heap.size = A at hD ⊢
  have hA : ∀ q : Nat, s.heap.size ≤ q → A q := fun q h => by rw [← hAe]; exact Or.inr h
  have hS : va_S A s.heap s.heap [] := va_S.rf
  have hP : va_P (dC, dI) vwCl [(h_this, .inr (5, [.ref h_signs, .int v_size, .int v_at, .int v_kind, .int v_amount, .long v_letters])), (h_signs, .inl (cC, 1000, .inl v_signs))] s.heap := hP
  have hl := lv_entry ([.ref h_this, .long p1]) (n := 5) (Nat.le_of_ble_eq_true rfl)
  rw [show entryFrame m args 5 = entryFrame m ([.ref h_this, .long p1] : List Value).toArray 5 from by rw [hargs], lg_entry_eq]
  generalize (lg_sl ([.ref h_this, .long p1]) ++ List.replicate (5 - (lg_sl ([.ref h_this, .long p1])).length) Slot.unset).toArray = ls at hl ⊢
  have hl : lv_has ls 5 [(0, .ref h_this), (1, .long p1)] := hl
  obtain ⟨Q, hQ⟩ : ∃ Q, Q = MQ below (xQ (dC, dI) [(h_this, .inr (5, [.ref h_signs, .int t.1, .int v_at, .int v_kind, .int v_amount, .long v_letters])), (h_signs, .inl (cC, 1000, .inl t.2))] A (none)) args s 0 0 A := ⟨_, rfl⟩
  rw [← hQ]
  show W p l e rm_Text_append s m args below meth c s.heap [] 0 0 Q _
  obtain ⟨H, hH⟩ : ∃ H, H = s.heap := ⟨_, rfl⟩
  obtain ⟨locs, hlocs⟩ : ∃ L : List Loc, L = [] := ⟨_, rfl⟩
  rw [← hlocs] at hS ⊢
  have hS : va_S A s.heap H locs := by rw [hH]; exact hS
  rw [← hH] at hP ⊢
  replace hf := f_Text_append_u hf
  refine lv_bipush (v := 56) hx hb d_Text_append_0 (by decide) ?_
  refine lv_istore_n (lv' := [(3, .int 56), (0, .ref h_this), (1, .long p1)]) hx hb d_Text_append_2 rfl hl (by decide) rfl (fun ls hl => ?_)
  have lp_3 : ∀ (n : Nat) (l3_3 : Int32) (v_size_3 : Int32) (v_signs_3 : Nat → Int32) (H : Heap) (locs : List Loc) (ls : Array Slot), L_Text_append_3 fu p1 n l3_3 v_size_3 v_signs_3 = some t → va_P (dC, dI) vwCl [(h_this, .inr (5, [.ref h_signs, .int v_size_3, .int v_at, .int v_kind, .int v_amount, .long v_letters])), (h_signs, .inl (cC, 1000, .inl v_signs_3))] H → va_D A [(h_this, .inr (5, [.ref h_signs, .int v_size_3, .int v_at, .int v_kind, .int v_amount, .long v_letters])), (h_signs, .inl (cC, 1000, .inl v_signs_3))] → va_S A s.heap H locs → lv_has ls 5 [(0, .ref h_this), (1, .long p1), (3, .int l3_3)] → W p l e rm_Text_append s m args below meth c H locs 0 0 Q (F0 m 3 ls []) := by
    intro  n
    induction n with
    | zero => intro l3_3 v_size_3 v_signs_3 H locs ls hf; exact (L_Text_append_3_z hf).elim
    | succ n ih =>
      intro l3_3 v_size_3 v_signs_3 H locs ls hf hP hD hS hl
      replace hf := L_Text_append_3_u hf
      refine lv_iload_n hx hb d_Text_append_3 rfl (lv_at hl 2 rfl) ?_
      refine lv_if_lt (tgt := 60) hx hb d_Text_append_4 (by decide) (fun c_1 => ?_) (fun c_1 => ?_)
      · replace hf := o_pos c_1 hf
        rw [hQ, ← Option.some.inj hf]
        exact W.vret hx hb hr (fun t9 ht9 hW9 => ⟨rfl, by rw [ht9]; exact hP, hS.F ht9⟩) hS.2.2 d_Text_append_60
      · replace hf := o_neg c_1 hf
        refine lv_lload_n hx hb d_Text_append_7 rfl (lv_at hl 1 rfl) ?_
        refine lv_iload_n hx hb d_Text_append_8 rfl (lv_at hl 2 rfl) ?_
        refine lv_lushr (v := ((p1 : Int64).toUInt64 >>> ((l3_3 : Int32).toInt64.toUInt64 &&& Int64.toUInt64 63)).toInt64) hx hb d_Text_append_9 rfl ?_
        refine lv_l2i (v := (((p1 : Int64).toUInt64 >>> ((l3_3 : Int32).toInt64.toUInt64 &&& Int64.toUInt64 63)).toInt64 : Int64).toInt32) hx hb d_Text_append_10 rfl ?_
        refine lv_sipush (v := 255) hx hb d_Text_append_11 (by decide) ?_
        refine lv_iand hx hb d_Text_append_14 ?_
        refine lv_istore (lv' := [(4, .int (((((p1 : Int64).toUInt64 >>> ((l3_3 : Int32).toInt64.toUInt64 &&& Int64.toUInt64 63)).toInt64 : Int64).toInt32) &&& 255)), (0, .ref h_this), (1, .long p1), (3, .int l3_3)]) hx hb d_Text_append_15 hl (by decide) rfl (fun ls hl => ?_)
        refine lv_iload hx hb d_Text_append_17 (lv_at hl 0 rfl) ?_
        refine lv_if_eq (tgt := 54) hx hb d_Text_append_19 (by decide) (fun c_2 => ?_) (fun c_2 => ?_)
        · replace hf := o_pos c_2 hf
          refine lv_iinc (v := l3_3 + (-8)) (lv' := [(3, .int (l3_3 + (-8))), (4, .int (((((p1 : Int64).toUInt64 >>> ((l3_3 : Int32).toInt64.toUInt64 &&& Int64.toUInt64 63)).toInt64 : Int64).toInt32) &&& 255)), (0, .ref h_this), (1, .long p1)]) hx hb d_Text_append_54 hl (k := 3) rfl rfl (by decide) rfl (fun ls hl => ?_)
          refine lv_goto (tgt := 3) hx hb d_Text_append_57 (by decide) ?_
          exact ih (l3_3 + (-8)) v_size_3 v_signs_3 H locs ls hf hP hD hS (lv_sub hl [2, 3, 0] rfl)
        · replace hf := o_neg c_2 hf
          refine lv_aload_n hx hb d_Text_append_22 rfl (lv_at hl 1 rfl) ?_
          refine va_get (D := (dC, dI)) (ci := 5) (v := .int v_size_3) (C := R_Text) (T := T_Text) (N := 6) hx hb hT i_Text hown hK hP 0 rfl rfl 1 (by decide) (hT _ kF_Text_15) (fun _ h9 => h9) rfl d_Text_append_23 ?_
          refine lv_sipush (v := 1000) hx hb d_Text_append_26 (by decide) ?_
          refine lv_icmp_ge (tgt := 54) hx hb d_Text_append_29 (by decide) (fun c_3 => ?_) (fun c_3 => ?_)
          · replace hf := o_pos c_3 hf
            refine lv_iinc (v := l3_3 + (-8)) (lv' := [(3, .int (l3_3 + (-8))), (4, .int (((((p1 : Int64).toUInt64 >>> ((l3_3 : Int32).toInt64.toUInt64 &&& Int64.toUInt64 63)).toInt64 : Int64).toInt32) &&& 255)), (0, .ref h_this), (1, .long p1)]) hx hb d_Text_append_54 hl (k := 3) rfl rfl (by decide) rfl (fun ls hl => ?_)
            refine lv_goto (tgt := 3) hx hb d_Text_append_57 (by decide) ?_
            exact ih (l3_3 + (-8)) v_size_3 v_signs_3 H locs ls hf hP hD hS (lv_sub hl [2, 3, 0] rfl)
          · replace hf := o_neg c_3 hf
            refine lv_aload_n hx hb d_Text_append_32 rfl (lv_at hl 1 rfl) ?_
            refine va_get (D := (dC, dI)) (ci := 5) (v := .ref h_signs) (C := R_Text) (T := T_Text) (N := 6) hx hb hT i_Text hown hK hP 0 rfl rfl 0 (by decide) (hT _ kF_Text_9) (fun _ h9 => h9) rfl d_Text_append_33 ?_
            refine lv_aload_n hx hb d_Text_append_36 rfl (lv_at hl 1 rfl) ?_
            refine va_get (D := (dC, dI)) (ci := 5) (v := .int v_size_3) (C := R_Text) (T := T_Text) (N := 6) hx hb hT i_Text hown hK hP 0 rfl rfl 1 (by decide) (hT _ kF_Text_15) (fun _ h9 => h9) rfl d_Text_append_37 ?_
            refine lv_iload hx hb d_Text_append_40 (lv_at hl 0 rfl) ?_
            refine lv_i2c (v := ((((((p1 : Int64).toUInt64 >>> ((l3_3 : Int32).toInt64.toUInt64 &&& Int64.toUInt64 63)).toInt64 : Int64).toInt32) &&& 255 : Int32).toUInt32 % 65536).toInt32) hx hb d_Text_append_42 rfl ?_
            obtain ⟨hi_4, hf⟩ := o_in hf
            refine va_cast hx hb hK hP hD hS 1 2 rfl rfl hi_4 d_Text_append_43 (fun H locs hP hD hS => ?_)
            have hP : va_P (dC, dI) vwCl [(h_this, .inr (5, [.ref h_signs, .int v_size_3, .int v_at, .int v_kind, .int v_amount, .long v_letters])), (h_signs, .inl (cC, 1000, .inl (upd v_signs_3 (v_size_3 : Int32).toNatClampNeg (vp_nar .char (((((((p1 : Int64).toUInt64 >>> ((l3_3 : Int32).toInt64.toUInt64 &&& Int64.toUInt64 63)).toInt64 : Int64).toInt32) &&& 255 : Int32).toUInt32 % 65536).toInt32)))))] H := hP
            have hD : va_D A [(h_this, .inr (5, [.ref h_signs, .int v_size_3, .int v_at, .int v_kind, .int v_amount, .long v_letters])), (h_signs, .inl (cC, 1000, .inl (upd v_signs_3 (v_size_3 : Int32).toNatClampNeg (vp_nar .char (((((((p1 : Int64).toUInt64 >>> ((l3_3 : Int32).toInt64.toUInt64 &&& Int64.toUInt64 63)).toInt64 : Int64).toInt32) &&& 255 : Int32).toUInt32 % 65536).toInt32)))))] := hD
            refine lv_aload_n hx hb d_Text_append_44 rfl (lv_at hl 1 rfl) ?_
            refine lv_dup hx hb d_Text_append_45 rfl ?_
            refine va_get (D := (dC, dI)) (ci := 5) (v := .int v_size_3) (C := R_Text) (T := T_Text) (N := 6) hx hb hT i_Text hown hK hP 0 rfl rfl 1 (by decide) (hT _ kF_Text_15) (fun _ h9 => h9) rfl d_Text_append_46 ?_
            refine lv_iconst (v := 1) hx hb d_Text_append_49 (by decide) ?_
            refine lv_iadd hx hb d_Text_append_50 ?_
            refine va_put (D := (dC, dI)) (ci := 5) (v := .int (v_size_3 + 1)) (ty := .int) (C := R_Text) (T := T_Text) (N := 6) hx hb hT i_Text ty_Text ty_Text_ok n_Text hown hK hP hD hS 0 rfl rfl 1 (by decide) (hT _ kF_Text_15) (fun _ h9 => h9) rfl (by decide +kernel) rfl rfl (Nat.le_of_ble_eq_true rfl) d_Text_append_51 (fun H locs hP hD hS => ?_)
            have hP : va_P (dC, dI) vwCl [(h_this, .inr (5, [.ref h_signs, .int (v_size_3 + 1), .int v_at, .int v_kind, .int v_amount, .long v_letters])), (h_signs, .inl (cC, 1000, .inl (upd v_signs_3 (v_size_3 : Int32).toNatClampNeg (vp_nar .char (((((((p1 : Int64).toUInt64 >>> ((l3_3 : Int32).toInt64.toUInt64 &&& Int64.toUInt64 63)).toInt64 : Int64).toInt32) &&& 255 : Int32).toUInt32 % 65536).toInt32)))))] H := hP
            have hD : va_D A [(h_this, .inr (5, [.ref h_signs, .int (v_size_3 + 1), .int v_at, .int v_kind, .int v_amount, .long v_letters])), (h_signs, .inl (cC, 1000, .inl (upd v_signs_3 (v_size_3 : Int32).toNatClampNeg (vp_nar .char (((((((p1 : Int64).toUInt64 >>> ((l3_3 : Int32).toInt64.toUInt64 &&& Int64.toUInt64 63)).toInt64 : Int64).toInt32) &&& 255 : Int32).toUInt32 % 65536).toInt32)))))] := hD
            refine lv_iinc (v := l3_3 + (-8)) (lv' := [(3, .int (l3_3 + (-8))), (4, .int (((((p1 : Int64).toUInt64 >>> ((l3_3 : Int32).toInt64.toUInt64 &&& Int64.toUInt64 63)).toInt64 : Int64).toInt32) &&& 255)), (0, .ref h_this), (1, .long p1)]) hx hb d_Text_append_54 hl (k := 3) rfl rfl (by decide) rfl (fun ls hl => ?_)
            refine lv_goto (tgt := 3) hx hb d_Text_append_57 (by decide) ?_
            exact ih (l3_3 + (-8)) (v_size_3 + 1) (upd v_signs_3 (v_size_3 : Int32).toNatClampNeg (vp_nar .char (((((((p1 : Int64).toUInt64 >>> ((l3_3 : Int32).toInt64.toUInt64 &&& Int64.toUInt64 63)).toInt64 : Int64).toInt32) &&& 255 : Int32).toUInt32 % 65536).toInt32))) H locs ls hf hP hD hS (lv_sub hl [2, 3, 0] rfl)
  refine lp_3  fu 56 v_size v_signs H locs ls hf hP hD hS (lv_sub hl [1, 2, 0] rfl)
def rm_Text_signAt : Room := { frames := 0, cells := 0, slots := 0, locals := 0 }
set_option maxHeartbeats 4000000 in
set_option maxRecDepth 100000 in
theorem c_Text_signAt (l : Launch) (dC : Nat → ClassId) (dI : Nat → Nat → Nat) (cI cL cC : ClassId) (h_this h_signs : Nat) (sz : Nat) (v_size : Int32) (v_at : Int32) (v_kind : Int32) (v_amount : Int32) (v_letters : Int64) (v_signs : Nat → Int32) (p1 : Int32) (t : Int32) (hf : f_Text_signAt v_size v_signs p1 = some t) : Met l y_Text_signAt (Cond.code y_Text_signAt prog_7_method_5_code 2 (some .char) :: xT) rm_Text_signAt (va_Pc [.ref h_this, .int p1] (xP (dC, dI) (xTy cI cL cC) [(h_this, .inr (5, [.ref h_signs, .int v_size, .int v_at, .int v_kind, .int v_amount, .long v_letters])), (h_signs, .inl (cC, 1000, .inl v_signs))] sz)) (xQ (dC, dI) [(h_this, .inr (5, [.ref h_signs, .int v_size, .int v_at, .int v_kind, .int v_amount, .long v_letters])), (h_signs, .inl (cC, 1000, .inl v_signs))] (va_A [(h_this, .inr (5, [.ref h_signs, .int v_size, .int v_at, .int v_kind, .int v_amount, .long v_letters])), (h_signs, .inl (cC, 1000, .inl v_signs))] sz) (some (.int t))) 0 0 (va_A [(h_this, .inr (5, [.ref h_signs, .int v_size, .int v_at, .int v_kind, .int v_amount, .long v_letters])), (h_signs, .inl (cC, 1000, .inl v_signs))] sz) := by
  refine Met.ofW (cc := prog_7_method_5_code) (maxL := 2) (ret := (some .char)) (by decide) rfl ?_
  intro p e s m args below meth c s₁ B hml hv
  obtain ⟨hargs, hsz, hP, hK, hN, hD0⟩ := hv
  have hx := B.exec
  have hb := B.bytes
  have hr := B.returns
  have hT : ∀ w ∈ xT, w.before args s = true := fun w hw => atoms_spec (ws := Cond.code y_Text_signAt prog_7_method_5_code 2 (some .char) :: xT) B.pre w (List.mem_cons_of_mem _ hw)
  have hown : s.vm.findClass R_Text = some m.cls := findClass_of_methodNamed B.named
  have hlocks := B.notSynchronized
  subst hsz
  have hD := hD0.self (sz := s.heap.size)
  generalize hAe : va_A [(h_this, .inr (5, [.ref h_signs, .int v_size, .int v_at, .int v_kind, .int v_amount, .long v_letters])), (h_signs, .inl (cC, 1000, .inl v_signs))] s.heap.size = A at hD ⊢
  have hA : ∀ q : Nat, s.heap.size ≤ q → A q := fun q h => by rw [← hAe]; exact Or.inr h
  have hS : va_S A s.heap s.heap [] := va_S.rf
  have hP : va_P (dC, dI) vwCl [(h_this, .inr (5, [.ref h_signs, .int v_size, .int v_at, .int v_kind, .int v_amount, .long v_letters])), (h_signs, .inl (cC, 1000, .inl v_signs))] s.heap := hP
  have hl := lv_entry ([.ref h_this, .int p1]) (n := 2) (Nat.le_of_ble_eq_true rfl)
  rw [show entryFrame m args 2 = entryFrame m ([.ref h_this, .int p1] : List Value).toArray 2 from by rw [hargs], lg_entry_eq]
  generalize (lg_sl ([.ref h_this, .int p1]) ++ List.replicate (2 - (lg_sl ([.ref h_this, .int p1])).length) Slot.unset).toArray = ls at hl ⊢
  have hl : lv_has ls 2 [(0, .ref h_this), (1, .int p1)] := hl
  obtain ⟨Q, hQ⟩ : ∃ Q, Q = MQ below (xQ (dC, dI) [(h_this, .inr (5, [.ref h_signs, .int v_size, .int v_at, .int v_kind, .int v_amount, .long v_letters])), (h_signs, .inl (cC, 1000, .inl v_signs))] A (some (.int t))) args s 0 0 A := ⟨_, rfl⟩
  rw [← hQ]
  show W p l e rm_Text_signAt s m args below meth c s.heap [] 0 0 Q _
  obtain ⟨H, hH⟩ : ∃ H, H = s.heap := ⟨_, rfl⟩
  obtain ⟨locs, hlocs⟩ : ∃ L : List Loc, L = [] := ⟨_, rfl⟩
  rw [← hlocs] at hS ⊢
  have hS : va_S A s.heap H locs := by rw [hH]; exact hS
  rw [← hH] at hP ⊢
  replace hf := f_Text_signAt_u hf
  refine lv_iload_n hx hb d_Text_signAt_0 rfl (lv_at hl 1 rfl) ?_
  refine lv_aload_n hx hb d_Text_signAt_1 rfl (lv_at hl 0 rfl) ?_
  refine va_get (D := (dC, dI)) (ci := 5) (v := .int v_size) (C := R_Text) (T := T_Text) (N := 6) hx hb hT i_Text hown hK hP 0 rfl rfl 1 (by decide) (hT _ kF_Text_15) (fun _ h9 => h9) rfl d_Text_signAt_2 ?_
  refine lv_icmp_ge (tgt := 17) hx hb d_Text_signAt_5 (by decide) (fun c_1 => ?_) (fun c_1 => ?_)
  · replace hf := o_pos c_1 hf
    refine lv_bipush (v := 32) hx hb d_Text_signAt_17 (by decide) ?_
    rw [hQ, ← Option.some.inj hf]
    exact W.zret (ty := .char) hx hb hr rfl (fun t9 ht9 hW9 => ⟨rfl, by rw [ht9]; exact hP, hS.F ht9⟩) hS.2.2 d_Text_signAt_19
  · replace hf := o_neg c_1 hf
    refine lv_aload_n hx hb d_Text_signAt_8 rfl (lv_at hl 0 rfl) ?_
    refine va_get (D := (dC, dI)) (ci := 5) (v := .ref h_signs) (C := R_Text) (T := T_Text) (N := 6) hx hb hT i_Text hown hK hP 0 rfl rfl 0 (by decide) (hT _ kF_Text_9) (fun _ h9 => h9) rfl d_Text_signAt_9 ?_
    refine lv_iload_n hx hb d_Text_signAt_12 rfl (lv_at hl 1 rfl) ?_
    obtain ⟨hi_2, hf⟩ := o_in hf
    refine va_cald hx hb hK hP 1 2 rfl rfl hi_2 d_Text_signAt_13 ?_
    refine lv_goto (tgt := 19) hx hb d_Text_signAt_14 (by decide) ?_
    obtain ⟨hz_3, hf⟩ := o_zc hf
    rw [hQ, ← Option.some.inj hf]
    exact W.zret (ty := .char) hx hb hr hz_3 (fun t9 ht9 hW9 => ⟨rfl, by rw [ht9]; exact hP, hS.F ht9⟩) hS.2.2 d_Text_signAt_19
def rm_Text_isLetter : Room := { frames := 0, cells := 0, slots := 0, locals := 0 }
set_option maxHeartbeats 4000000 in
set_option maxRecDepth 100000 in
theorem c_Text_isLetter (l : Launch) (dC : Nat → ClassId) (dI : Nat → Nat → Nat) (cI cL cC : ClassId) (sz : Nat) (p1 : Int32) (t : Int32) (hf : f_Text_isLetter p1 = some t) : Met l y_Text_isLetter (Cond.code y_Text_isLetter prog_7_method_13_code 1 (some .boolean) :: xT) rm_Text_isLetter (va_Pc [.int p1] (xP (dC, dI) (xTy cI cL cC) [] sz)) (xQ (dC, dI) [] (va_A [] sz) (some (.int t))) 0 0 (va_A [] sz) := by
  refine Met.ofW (cc := prog_7_method_13_code) (maxL := 1) (ret := (some .boolean)) (by decide) rfl ?_
  intro p e s m args below meth c s₁ B hml hv
  obtain ⟨hargs, hsz, hP, hK, hN, hD0⟩ := hv
  have hx := B.exec
  have hb := B.bytes
  have hr := B.returns
  have hT : ∀ w ∈ xT, w.before args s = true := fun w hw => atoms_spec (ws := Cond.code y_Text_isLetter prog_7_method_13_code 1 (some .boolean) :: xT) B.pre w (List.mem_cons_of_mem _ hw)
  have hown : s.vm.findClass R_Text = some m.cls := findClass_of_methodNamed B.named
  have hlocks := B.notSynchronized
  subst hsz
  have hD := hD0.self (sz := s.heap.size)
  generalize hAe : va_A [] s.heap.size = A at hD ⊢
  have hA : ∀ q : Nat, s.heap.size ≤ q → A q := fun q h => by rw [← hAe]; exact Or.inr h
  have hS : va_S A s.heap s.heap [] := va_S.rf
  have hP : va_P (dC, dI) vwCl [] s.heap := hP
  have hl := lv_entry ([.int p1]) (n := 1) (Nat.le_of_ble_eq_true rfl)
  rw [show entryFrame m args 1 = entryFrame m ([.int p1] : List Value).toArray 1 from by rw [hargs], lg_entry_eq]
  generalize (lg_sl ([.int p1]) ++ List.replicate (1 - (lg_sl ([.int p1])).length) Slot.unset).toArray = ls at hl ⊢
  have hl : lv_has ls 1 [(0, .int p1)] := hl
  obtain ⟨Q, hQ⟩ : ∃ Q, Q = MQ below (xQ (dC, dI) [] A (some (.int t))) args s 0 0 A := ⟨_, rfl⟩
  rw [← hQ]
  show W p l e rm_Text_isLetter s m args below meth c s.heap [] 0 0 Q _
  obtain ⟨H, hH⟩ : ∃ H, H = s.heap := ⟨_, rfl⟩
  obtain ⟨locs, hlocs⟩ : ∃ L : List Loc, L = [] := ⟨_, rfl⟩
  rw [← hlocs] at hS ⊢
  have hS : va_S A s.heap H locs := by rw [hH]; exact hS
  rw [← hH] at hP ⊢
  replace hf := f_Text_isLetter_u hf
  refine lv_iload_n hx hb d_Text_isLetter_0 rfl (lv_at hl 0 rfl) ?_
  refine lv_bipush (v := 97) hx hb d_Text_isLetter_1 (by decide) ?_
  refine lv_icmp_lt (tgt := 16) hx hb d_Text_isLetter_3 (by decide) (fun c_1 => ?_) (fun c_1 => ?_)
  · replace hf := o_pos c_1 hf
    refine lv_iconst (v := 0) hx hb d_Text_isLetter_16 (by decide) ?_
    rw [hQ, ← Option.some.inj hf]
    exact W.zret (ty := .boolean) hx hb hr rfl (fun t9 ht9 hW9 => ⟨rfl, by rw [ht9]; exact hP, hS.F ht9⟩) hS.2.2 d_Text_isLetter_17
  · replace hf := o_neg c_1 hf
    refine lv_iload_n hx hb d_Text_isLetter_6 rfl (lv_at hl 0 rfl) ?_
    refine lv_bipush (v := 122) hx hb d_Text_isLetter_7 (by decide) ?_
    refine lv_icmp_gt (tgt := 16) hx hb d_Text_isLetter_9 (by decide) (fun c_2 => ?_) (fun c_2 => ?_)
    · replace hf := o_pos c_2 hf
      refine lv_iconst (v := 0) hx hb d_Text_isLetter_16 (by decide) ?_
      rw [hQ, ← Option.some.inj hf]
      exact W.zret (ty := .boolean) hx hb hr rfl (fun t9 ht9 hW9 => ⟨rfl, by rw [ht9]; exact hP, hS.F ht9⟩) hS.2.2 d_Text_isLetter_17
    · replace hf := o_neg c_2 hf
      refine lv_iconst (v := 1) hx hb d_Text_isLetter_12 (by decide) ?_
      refine lv_goto (tgt := 17) hx hb d_Text_isLetter_13 (by decide) ?_
      rw [hQ, ← Option.some.inj hf]
      exact W.zret (ty := .boolean) hx hb hr rfl (fun t9 ht9 hW9 => ⟨rfl, by rw [ht9]; exact hP, hS.F ht9⟩) hS.2.2 d_Text_isLetter_17
def rm_Text_isDigit : Room := { frames := 0, cells := 0, slots := 0, locals := 0 }
set_option maxHeartbeats 4000000 in
set_option maxRecDepth 100000 in
theorem c_Text_isDigit (l : Launch) (dC : Nat → ClassId) (dI : Nat → Nat → Nat) (cI cL cC : ClassId) (sz : Nat) (p1 : Int32) (t : Int32) (hf : f_Text_isDigit p1 = some t) : Met l y_Text_isDigit (Cond.code y_Text_isDigit prog_7_method_14_code 1 (some .boolean) :: xT) rm_Text_isDigit (va_Pc [.int p1] (xP (dC, dI) (xTy cI cL cC) [] sz)) (xQ (dC, dI) [] (va_A [] sz) (some (.int t))) 0 0 (va_A [] sz) := by
  refine Met.ofW (cc := prog_7_method_14_code) (maxL := 1) (ret := (some .boolean)) (by decide) rfl ?_
  intro p e s m args below meth c s₁ B hml hv
  obtain ⟨hargs, hsz, hP, hK, hN, hD0⟩ := hv
  have hx := B.exec
  have hb := B.bytes
  have hr := B.returns
  have hT : ∀ w ∈ xT, w.before args s = true := fun w hw => atoms_spec (ws := Cond.code y_Text_isDigit prog_7_method_14_code 1 (some .boolean) :: xT) B.pre w (List.mem_cons_of_mem _ hw)
  have hown : s.vm.findClass R_Text = some m.cls := findClass_of_methodNamed B.named
  have hlocks := B.notSynchronized
  subst hsz
  have hD := hD0.self (sz := s.heap.size)
  generalize hAe : va_A [] s.heap.size = A at hD ⊢
  have hA : ∀ q : Nat, s.heap.size ≤ q → A q := fun q h => by rw [← hAe]; exact Or.inr h
  have hS : va_S A s.heap s.heap [] := va_S.rf
  have hP : va_P (dC, dI) vwCl [] s.heap := hP
  have hl := lv_entry ([.int p1]) (n := 1) (Nat.le_of_ble_eq_true rfl)
  rw [show entryFrame m args 1 = entryFrame m ([.int p1] : List Value).toArray 1 from by rw [hargs], lg_entry_eq]
  generalize (lg_sl ([.int p1]) ++ List.replicate (1 - (lg_sl ([.int p1])).length) Slot.unset).toArray = ls at hl ⊢
  have hl : lv_has ls 1 [(0, .int p1)] := hl
  obtain ⟨Q, hQ⟩ : ∃ Q, Q = MQ below (xQ (dC, dI) [] A (some (.int t))) args s 0 0 A := ⟨_, rfl⟩
  rw [← hQ]
  show W p l e rm_Text_isDigit s m args below meth c s.heap [] 0 0 Q _
  obtain ⟨H, hH⟩ : ∃ H, H = s.heap := ⟨_, rfl⟩
  obtain ⟨locs, hlocs⟩ : ∃ L : List Loc, L = [] := ⟨_, rfl⟩
  rw [← hlocs] at hS ⊢
  have hS : va_S A s.heap H locs := by rw [hH]; exact hS
  rw [← hH] at hP ⊢
  replace hf := f_Text_isDigit_u hf
  refine lv_iload_n hx hb d_Text_isDigit_0 rfl (lv_at hl 0 rfl) ?_
  refine lv_bipush (v := 48) hx hb d_Text_isDigit_1 (by decide) ?_
  refine lv_icmp_lt (tgt := 16) hx hb d_Text_isDigit_3 (by decide) (fun c_1 => ?_) (fun c_1 => ?_)
  · replace hf := o_pos c_1 hf
    refine lv_iconst (v := 0) hx hb d_Text_isDigit_16 (by decide) ?_
    rw [hQ, ← Option.some.inj hf]
    exact W.zret (ty := .boolean) hx hb hr rfl (fun t9 ht9 hW9 => ⟨rfl, by rw [ht9]; exact hP, hS.F ht9⟩) hS.2.2 d_Text_isDigit_17
  · replace hf := o_neg c_1 hf
    refine lv_iload_n hx hb d_Text_isDigit_6 rfl (lv_at hl 0 rfl) ?_
    refine lv_bipush (v := 57) hx hb d_Text_isDigit_7 (by decide) ?_
    refine lv_icmp_gt (tgt := 16) hx hb d_Text_isDigit_9 (by decide) (fun c_2 => ?_) (fun c_2 => ?_)
    · replace hf := o_pos c_2 hf
      refine lv_iconst (v := 0) hx hb d_Text_isDigit_16 (by decide) ?_
      rw [hQ, ← Option.some.inj hf]
      exact W.zret (ty := .boolean) hx hb hr rfl (fun t9 ht9 hW9 => ⟨rfl, by rw [ht9]; exact hP, hS.F ht9⟩) hS.2.2 d_Text_isDigit_17
    · replace hf := o_neg c_2 hf
      refine lv_iconst (v := 1) hx hb d_Text_isDigit_12 (by decide) ?_
      refine lv_goto (tgt := 17) hx hb d_Text_isDigit_13 (by decide) ?_
      rw [hQ, ← Option.some.inj hf]
      exact W.zret (ty := .boolean) hx hb hr rfl (fun t9 ht9 hW9 => ⟨rfl, by rw [ht9]; exact hP, hS.F ht9⟩) hS.2.2 d_Text_isDigit_17
def rm_Text_readDigits : Room := { frames := 1, cells := 0, slots := 0, locals := 20 }
set_option maxHeartbeats 4000000 in
set_option maxRecDepth 100000 in
theorem c_Text_readDigits (l : Launch) (dC : Nat → ClassId) (dI : Nat → Nat → Nat) (cI cL cC : ClassId) (h_this h_signs : Nat) (sz : Nat) (fu : Nat) (v_size : Int32) (v_at : Int32) (v_kind : Int32) (v_amount : Int32) (v_letters : Int64) (v_signs : Nat → Int32) (t : Int32 × Int32 × Int32) (hf : f_Text_readDigits fu v_size v_at v_amount v_signs = some t) : Met l y_Text_readDigits (Cond.code y_Text_readDigits prog_7_method_8_code 2 (some .int) :: xT) rm_Text_readDigits (va_Pc [.ref h_this] (xP (dC, dI) (xTy cI cL cC) [(h_this, .inr (5, [.ref h_signs, .int v_size, .int v_at, .int v_kind, .int v_amount, .long v_letters])), (h_signs, .inl (cC, 1000, .inl v_signs))] sz)) (xQ (dC, dI) [(h_this, .inr (5, [.ref h_signs, .int v_size, .int t.2.1, .int v_kind, .int t.2.2, .long v_letters])), (h_signs, .inl (cC, 1000, .inl v_signs))] (va_A [(h_this, .inr (5, [.ref h_signs, .int v_size, .int v_at, .int v_kind, .int v_amount, .long v_letters])), (h_signs, .inl (cC, 1000, .inl v_signs))] sz) (some (.int t.1))) 0 0 (va_A [(h_this, .inr (5, [.ref h_signs, .int v_size, .int v_at, .int v_kind, .int v_amount, .long v_letters])), (h_signs, .inl (cC, 1000, .inl v_signs))] sz) := by
  refine Met.ofW (cc := prog_7_method_8_code) (maxL := 2) (ret := (some .int)) (by decide) rfl ?_
  intro p e s m args below meth c s₁ B hml hv
  obtain ⟨hargs, hsz, hP, hK, hN, hD0⟩ := hv
  have hx := B.exec
  have hb := B.bytes
  have hr := B.returns
  have hT : ∀ w ∈ xT, w.before args s = true := fun w hw => atoms_spec (ws := Cond.code y_Text_readDigits prog_7_method_8_code 2 (some .int) :: xT) B.pre w (List.mem_cons_of_mem _ hw)
  have hown : s.vm.findClass R_Text = some m.cls := findClass_of_methodNamed B.named
  have hlocks := B.notSynchronized
  subst hsz
  have hD := hD0.self (sz := s.heap.size)
  generalize hAe : va_A [(h_this, .inr (5, [.ref h_signs, .int v_size, .int v_at, .int v_kind, .int v_amount, .long v_letters])), (h_signs, .inl (cC, 1000, .inl v_signs))] s.heap.size = A at hD ⊢
  have hA : ∀ q : Nat, s.heap.size ≤ q → A q := fun q h => by rw [← hAe]; exact Or.inr h
  have hS : va_S A s.heap s.heap [] := va_S.rf
  have hP : va_P (dC, dI) vwCl [(h_this, .inr (5, [.ref h_signs, .int v_size, .int v_at, .int v_kind, .int v_amount, .long v_letters])), (h_signs, .inl (cC, 1000, .inl v_signs))] s.heap := hP
  have hl := lv_entry ([.ref h_this]) (n := 2) (Nat.le_of_ble_eq_true rfl)
  rw [show entryFrame m args 2 = entryFrame m ([.ref h_this] : List Value).toArray 2 from by rw [hargs], lg_entry_eq]
  generalize (lg_sl ([.ref h_this]) ++ List.replicate (2 - (lg_sl ([.ref h_this])).length) Slot.unset).toArray = ls at hl ⊢
  have hl : lv_has ls 2 [(0, .ref h_this)] := hl
  obtain ⟨Q, hQ⟩ : ∃ Q, Q = MQ below (xQ (dC, dI) [(h_this, .inr (5, [.ref h_signs, .int v_size, .int t.2.1, .int v_kind, .int t.2.2, .long v_letters])), (h_signs, .inl (cC, 1000, .inl v_signs))] A (some (.int t.1))) args s 0 0 A := ⟨_, rfl⟩
  rw [← hQ]
  show W p l e rm_Text_readDigits s m args below meth c s.heap [] 0 0 Q _
  obtain ⟨H, hH⟩ : ∃ H, H = s.heap := ⟨_, rfl⟩
  obtain ⟨locs, hlocs⟩ : ∃ L : List Loc, L = [] := ⟨_, rfl⟩
  rw [← hlocs] at hS ⊢
  have hS : va_S A s.heap H locs := by rw [hH]; exact hS
  rw [← hH] at hP ⊢
  replace hf := f_Text_readDigits_u hf
  refine lv_iconst (v := 0) hx hb d_Text_readDigits_0 (by decide) ?_
  refine lv_istore_n (lv' := [(1, .int 0), (0, .ref h_this)]) hx hb d_Text_readDigits_1 rfl hl (by decide) rfl (fun ls hl => ?_)
  refine lv_aload_n hx hb d_Text_readDigits_2 rfl (lv_at hl 1 rfl) ?_
  refine lv_iconst (v := 0) hx hb d_Text_readDigits_3 (by decide) ?_
  refine va_put (D := (dC, dI)) (ci := 5) (v := .int 0) (ty := .int) (C := R_Text) (T := T_Text) (N := 6) hx hb hT i_Text ty_Text ty_Text_ok n_Text hown hK hP hD hS 0 rfl rfl 4 (by decide) (hT _ kF_Text_56) (fun _ h9 => h9) rfl (by decide +kernel) rfl rfl (Nat.le_of_ble_eq_true rfl) d_Text_readDigits_4 (fun H locs hP hD hS => ?_)
  have hP : va_P (dC, dI) vwCl [(h_this, .inr (5, [.ref h_signs, .int v_size, .int v_at, .int v_kind, .int 0, .long v_letters])), (h_signs, .inl (cC, 1000, .inl v_signs))] H := hP
  have hD : va_D A [(h_this, .inr (5, [.ref h_signs, .int v_size, .int v_at, .int v_kind, .int 0, .long v_letters])), (h_signs, .inl (cC, 1000, .inl v_signs))] := hD
  have lp_7 : ∀ (n : Nat) (l1_7 : Int32) (v_at_7 : Int32) (v_amount_7 : Int32) (H : Heap) (locs : List Loc) (ls : Array Slot), L_Text_readDigits_7 fu v_size v_signs n l1_7 v_at_7 v_amount_7 = some t → va_P (dC, dI) vwCl [(h_this, .inr (5, [.ref h_signs, .int v_size, .int v_at_7, .int v_kind, .int v_amount_7, .long v_letters])), (h_signs, .inl (cC, 1000, .inl v_signs))] H → va_D A [(h_this, .inr (5, [.ref h_signs, .int v_size, .int v_at_7, .int v_kind, .int v_amount_7, .long v_letters])), (h_signs, .inl (cC, 1000, .inl v_signs))] → va_S A s.heap H locs → lv_has ls 2 [(0, .ref h_this), (1, .int l1_7)] → W p l e rm_Text_readDigits s m args below meth c H locs 0 0 Q (F0 m 7 ls []) := by
    intro  n
    induction n with
    | zero => intro l1_7 v_at_7 v_amount_7 H locs ls hf; exact (L_Text_readDigits_7_z hf).elim
    | succ n ih =>
      intro l1_7 v_at_7 v_amount_7 H locs ls hf hP hD hS hl
      replace hf := L_Text_readDigits_7_u hf
      refine lv_aload_n hx hb d_Text_readDigits_7 rfl (lv_at hl 0 rfl) ?_
      refine va_get (D := (dC, dI)) (ci := 5) (v := .int v_at_7) (C := R_Text) (T := T_Text) (N := 6) hx hb hT i_Text hown hK hP 0 rfl rfl 2 (by decide) (hT _ kF_Text_19) (fun _ h9 => h9) rfl d_Text_readDigits_8 ?_
      refine lv_aload_n hx hb d_Text_readDigits_11 rfl (lv_at hl 0 rfl) ?_
      refine va_get (D := (dC, dI)) (ci := 5) (v := .int v_size) (C := R_Text) (T := T_Text) (N := 6) hx hb hT i_Text hown hK hP 0 rfl rfl 1 (by decide) (hT _ kF_Text_15) (fun _ h9 => h9) rfl d_Text_readDigits_12 ?_
      refine lv_icmp_ge (tgt := 79) hx hb d_Text_readDigits_15 (by decide) (fun c_1 => ?_) (fun c_1 => ?_)
      · replace hf := o_pos c_1 hf
        refine lv_iload_n hx hb d_Text_readDigits_79 rfl (lv_at hl 1 rfl) ?_
        rw [hQ, ← Option.some.inj hf]
        exact W.iret hx hb hr (fun t9 ht9 hW9 => ⟨rfl, by rw [ht9]; exact hP, hS.F ht9⟩) hS.2.2 d_Text_readDigits_80
      · replace hf := o_neg c_1 hf
        refine lv_aload_n hx hb d_Text_readDigits_18 rfl (lv_at hl 0 rfl) ?_
        refine va_get (D := (dC, dI)) (ci := 5) (v := .ref h_signs) (C := R_Text) (T := T_Text) (N := 6) hx hb hT i_Text hown hK hP 0 rfl rfl 0 (by decide) (hT _ kF_Text_9) (fun _ h9 => h9) rfl d_Text_readDigits_19 ?_
        refine lv_aload_n hx hb d_Text_readDigits_22 rfl (lv_at hl 0 rfl) ?_
        refine va_get (D := (dC, dI)) (ci := 5) (v := .int v_at_7) (C := R_Text) (T := T_Text) (N := 6) hx hb hT i_Text hown hK hP 0 rfl rfl 2 (by decide) (hT _ kF_Text_19) (fun _ h9 => h9) rfl d_Text_readDigits_23 ?_
        obtain ⟨hi_2, hf⟩ := o_in hf
        refine va_cald hx hb hK hP 1 2 rfl rfl hi_2 d_Text_readDigits_26 ?_
        obtain ⟨t_3, hg_3, hf⟩ := o_bind hf
        refine x_stat (w' := [(h_this, .inr (5, [.ref h_signs, .int v_size, .int v_at_7, .int v_kind, .int v_amount_7, .long v_letters])), (h_signs, .inl (cC, 1000, .inl v_signs))]) (As := [.int (v_signs (v_at_7 : Int32).toNatClampNeg)]) (rest := []) hx hb hml hl.1 hown hT hK hN hP hD hS hA (c_Text_isDigit l dC dI cI cL cC H.size (v_signs (v_at_7 : Int32).toNatClampNeg) t_3 hg_3) kM_Text_42 kT_Text_isDigit kN_Text kC_Text_isDigit hd_Text_isDigit rfl ⟨Nat.le_of_ble_eq_true rfl, Nat.le_of_ble_eq_true rfl⟩ rfl rfl ⟨Nat.zero_le _, Nat.zero_le _⟩ rfl (Nat.le_of_ble_eq_true rfl) d_Text_readDigits_27 [] rfl rfl [.inl 0, .inl 1] rfl rfl rfl (fun H locs hP hD hS => ?_)
        refine lv_if_eq (tgt := 79) hx hb d_Text_readDigits_30 (by decide) (fun c_4 => ?_) (fun c_4 => ?_)
        · replace hf := o_pos c_4 hf
          refine lv_iload_n hx hb d_Text_readDigits_79 rfl (lv_at hl 1 rfl) ?_
          rw [hQ, ← Option.some.inj hf]
          exact W.iret hx hb hr (fun t9 ht9 hW9 => ⟨rfl, by rw [ht9]; exact hP, hS.F ht9⟩) hS.2.2 d_Text_readDigits_80
        · replace hf := o_neg c_4 hf
          refine lv_iload_n hx hb d_Text_readDigits_33 rfl (lv_at hl 1 rfl) ?_
          refine lv_bipush (v := 7) hx hb d_Text_readDigits_34 (by decide) ?_
          refine lv_icmp_ge (tgt := 63) hx hb d_Text_readDigits_36 (by decide) (fun c_5 => ?_) (fun c_5 => ?_)
          · replace hf := o_pos c_5 hf
            refine lv_iinc (v := l1_7 + 1) (lv' := [(1, .int (l1_7 + 1)), (0, .ref h_this)]) hx hb d_Text_readDigits_63 hl (k := 1) rfl rfl (by decide) rfl (fun ls hl => ?_)
            refine lv_aload_n hx hb d_Text_readDigits_66 rfl (lv_at hl 1 rfl) ?_
            refine lv_dup hx hb d_Text_readDigits_67 rfl ?_
            refine va_get (D := (dC, dI)) (ci := 5) (v := .int v_at_7) (C := R_Text) (T := T_Text) (N := 6) hx hb hT i_Text hown hK hP 0 rfl rfl 2 (by decide) (hT _ kF_Text_19) (fun _ h9 => h9) rfl d_Text_readDigits_68 ?_
            refine lv_iconst (v := 1) hx hb d_Text_readDigits_71 (by decide) ?_
            refine lv_iadd hx hb d_Text_readDigits_72 ?_
            refine va_put (D := (dC, dI)) (ci := 5) (v := .int (v_at_7 + 1)) (ty := .int) (C := R_Text) (T := T_Text) (N := 6) hx hb hT i_Text ty_Text ty_Text_ok n_Text hown hK hP hD hS 0 rfl rfl 2 (by decide) (hT _ kF_Text_19) (fun _ h9 => h9) rfl (by decide +kernel) rfl rfl (Nat.le_of_ble_eq_true rfl) d_Text_readDigits_73 (fun H locs hP hD hS => ?_)
            have hP : va_P (dC, dI) vwCl [(h_this, .inr (5, [.ref h_signs, .int v_size, .int (v_at_7 + 1), .int v_kind, .int v_amount_7, .long v_letters])), (h_signs, .inl (cC, 1000, .inl v_signs))] H := hP
            have hD : va_D A [(h_this, .inr (5, [.ref h_signs, .int v_size, .int (v_at_7 + 1), .int v_kind, .int v_amount_7, .long v_letters])), (h_signs, .inl (cC, 1000, .inl v_signs))] := hD
            refine lv_goto (tgt := 7) hx hb d_Text_readDigits_76 (by decide) ?_
            exact ih (l1_7 + 1) (v_at_7 + 1) v_amount_7 H locs ls hf hP hD hS (lv_sub hl [1, 0] rfl)
          · replace hf := o_neg c_5 hf
            refine lv_aload_n hx hb d_Text_readDigits_39 rfl (lv_at hl 0 rfl) ?_
            refine lv_aload_n hx hb d_Text_readDigits_40 rfl (lv_at hl 0 rfl) ?_
            refine va_get (D := (dC, dI)) (ci := 5) (v := .int v_amount_7) (C := R_Text) (T := T_Text) (N := 6) hx hb hT i_Text hown hK hP 0 rfl rfl 4 (by decide) (hT _ kF_Text_56) (fun _ h9 => h9) rfl d_Text_readDigits_41 ?_
            refine lv_bipush (v := 10) hx hb d_Text_readDigits_44 (by decide) ?_
            refine lv_imul hx hb d_Text_readDigits_46 ?_
            refine lv_aload_n hx hb d_Text_readDigits_47 rfl (lv_at hl 0 rfl) ?_
            refine va_get (D := (dC, dI)) (ci := 5) (v := .ref h_signs) (C := R_Text) (T := T_Text) (N := 6) hx hb hT i_Text hown hK hP 0 rfl rfl 0 (by decide) (hT _ kF_Text_9) (fun _ h9 => h9) rfl d_Text_readDigits_48 ?_
            refine lv_aload_n hx hb d_Text_readDigits_51 rfl (lv_at hl 0 rfl) ?_
            refine va_get (D := (dC, dI)) (ci := 5) (v := .int v_at_7) (C := R_Text) (T := T_Text) (N := 6) hx hb hT i_Text hown hK hP 0 rfl rfl 2 (by decide) (hT _ kF_Text_19) (fun _ h9 => h9) rfl d_Text_readDigits_52 ?_
            obtain ⟨hi_6, hf⟩ := o_in hf
            refine va_cald hx hb hK hP 1 2 rfl rfl hi_6 d_Text_readDigits_55 ?_
            refine lv_bipush (v := 48) hx hb d_Text_readDigits_56 (by decide) ?_
            refine lv_isub hx hb d_Text_readDigits_58 ?_
            refine lv_iadd hx hb d_Text_readDigits_59 ?_
            refine va_put (D := (dC, dI)) (ci := 5) (v := .int ((v_amount_7 * 10) + ((v_signs (v_at_7 : Int32).toNatClampNeg) - 48))) (ty := .int) (C := R_Text) (T := T_Text) (N := 6) hx hb hT i_Text ty_Text ty_Text_ok n_Text hown hK hP hD hS 0 rfl rfl 4 (by decide) (hT _ kF_Text_56) (fun _ h9 => h9) rfl (by decide +kernel) rfl rfl (Nat.le_of_ble_eq_true rfl) d_Text_readDigits_60 (fun H locs hP hD hS => ?_)
            have hP : va_P (dC, dI) vwCl [(h_this, .inr (5, [.ref h_signs, .int v_size, .int v_at_7, .int v_kind, .int ((v_amount_7 * 10) + ((v_signs (v_at_7 : Int32).toNatClampNeg) - 48)), .long v_letters])), (h_signs, .inl (cC, 1000, .inl v_signs))] H := hP
            have hD : va_D A [(h_this, .inr (5, [.ref h_signs, .int v_size, .int v_at_7, .int v_kind, .int ((v_amount_7 * 10) + ((v_signs (v_at_7 : Int32).toNatClampNeg) - 48)), .long v_letters])), (h_signs, .inl (cC, 1000, .inl v_signs))] := hD
            refine lv_iinc (v := l1_7 + 1) (lv' := [(1, .int (l1_7 + 1)), (0, .ref h_this)]) hx hb d_Text_readDigits_63 hl (k := 1) rfl rfl (by decide) rfl (fun ls hl => ?_)
            refine lv_aload_n hx hb d_Text_readDigits_66 rfl (lv_at hl 1 rfl) ?_
            refine lv_dup hx hb d_Text_readDigits_67 rfl ?_
            refine va_get (D := (dC, dI)) (ci := 5) (v := .int v_at_7) (C := R_Text) (T := T_Text) (N := 6) hx hb hT i_Text hown hK hP 0 rfl rfl 2 (by decide) (hT _ kF_Text_19) (fun _ h9 => h9) rfl d_Text_readDigits_68 ?_
            refine lv_iconst (v := 1) hx hb d_Text_readDigits_71 (by decide) ?_
            refine lv_iadd hx hb d_Text_readDigits_72 ?_
            refine va_put (D := (dC, dI)) (ci := 5) (v := .int (v_at_7 + 1)) (ty := .int) (C := R_Text) (T := T_Text) (N := 6) hx hb hT i_Text ty_Text ty_Text_ok n_Text hown hK hP hD hS 0 rfl rfl 2 (by decide) (hT _ kF_Text_19) (fun _ h9 => h9) rfl (by decide +kernel) rfl rfl (Nat.le_of_ble_eq_true rfl) d_Text_readDigits_73 (fun H locs hP hD hS => ?_)
            have hP : va_P (dC, dI) vwCl [(h_this, .inr (5, [.ref h_signs, .int v_size, .int (v_at_7 + 1), .int v_kind, .int ((v_amount_7 * 10) + ((v_signs (v_at_7 : Int32).toNatClampNeg) - 48)), .long v_letters])), (h_signs, .inl (cC, 1000, .inl v_signs))] H := hP
            have hD : va_D A [(h_this, .inr (5, [.ref h_signs, .int v_size, .int (v_at_7 + 1), .int v_kind, .int ((v_amount_7 * 10) + ((v_signs (v_at_7 : Int32).toNatClampNeg) - 48)), .long v_letters])), (h_signs, .inl (cC, 1000, .inl v_signs))] := hD
            refine lv_goto (tgt := 7) hx hb d_Text_readDigits_76 (by decide) ?_
            exact ih (l1_7 + 1) (v_at_7 + 1) ((v_amount_7 * 10) + ((v_signs (v_at_7 : Int32).toNatClampNeg) - 48)) H locs ls hf hP hD hS (lv_sub hl [1, 0] rfl)
  refine lp_7  fu 0 v_at 0 H locs ls hf hP hD hS (lv_sub hl [1, 0] rfl)
def rm_Text_readPoint : Room := { frames := 2, cells := 0, slots := 0, locals := 41 }
set_option maxHeartbeats 4000000 in
set_option maxRecDepth 100000 in
theorem c_Text_readPoint (l : Launch) (dC : Nat → ClassId) (dI : Nat → Nat → Nat) (cI cL cC : ClassId) (h_this h_signs : Nat) (sz : Nat) (fu : Nat) (v_size : Int32) (v_at : Int32) (v_kind : Int32) (v_amount : Int32) (v_letters : Int64) (v_signs : Nat → Int32) (t : Int32 × Int32 × Int32) (hf : f_Text_readPoint fu v_size v_at v_kind v_amount v_signs = some t) : Met l y_Text_readPoint (Cond.code y_Text_readPoint prog_7_method_6_code 3 none :: xT) rm_Text_readPoint (va_Pc [.ref h_this] (xP (dC, dI) (xTy cI cL cC) [(h_this, .inr (5, [.ref h_signs, .int v_size, .int v_at, .int v_kind, .int v_amount, .long v_letters])), (h_signs, .inl (cC, 1000, .inl v_signs))] sz)) (xQ (dC, dI) [(h_this, .inr (5, [.ref h_signs, .int v_size, .int t.1, .int t.2.1, .int t.2.2, .long v_letters])), (h_signs, .inl (cC, 1000, .inl v_signs))] (va_A [(h_this, .inr (5, [.ref h_signs, .int v_size, .int v_at, .int v_kind, .int v_amount, .long v_letters])), (h_signs, .inl (cC, 1000, .inl v_signs))] sz) (none)) 0 0 (va_A [(h_this, .inr (5, [.ref h_signs, .int v_size, .int v_at, .int v_kind, .int v_amount, .long v_letters])), (h_signs, .inl (cC, 1000, .inl v_signs))] sz) := by
  refine Met.ofW (cc := prog_7_method_6_code) (maxL := 3) (ret := none) (by decide) rfl ?_
  intro p e s m args below meth c s₁ B hml hv
  obtain ⟨hargs, hsz, hP, hK, hN, hD0⟩ := hv
  have hx := B.exec
  have hb := B.bytes
  have hr := B.returns
  have hT : ∀ w ∈ xT, w.before args s = true := fun w hw => atoms_spec (ws := Cond.code y_Text_readPoint prog_7_method_6_code 3 none :: xT) B.pre w (List.mem_cons_of_mem _ hw)
  have hown : s.vm.findClass R_Text = some m.cls := findClass_of_methodNamed B.named
  have hlocks := B.notSynchronized
  subst hsz
  have hD := hD0.self (sz := s.heap.size)
  generalize hAe : va_A [(h_this, .inr (5, [.ref h_signs, .int v_size, .int v_at, .int v_kind, .int v_amount, .long v_letters])), (h_signs, .inl (cC, 1000, .inl v_signs))] s.heap.size = A at hD ⊢
  have hA : ∀ q : Nat, s.heap.size ≤ q → A q := fun q h => by rw [← hAe]; exact Or.inr h
  have hS : va_S A s.heap s.heap [] := va_S.rf
  have hP : va_P (dC, dI) vwCl [(h_this, .inr (5, [.ref h_signs, .int v_size, .int v_at, .int v_kind, .int v_amount, .long v_letters])), (h_signs, .inl (cC, 1000, .inl v_signs))] s.heap := hP
  have hl := lv_entry ([.ref h_this]) (n := 3) (Nat.le_of_ble_eq_true rfl)
  rw [show entryFrame m args 3 = entryFrame m ([.ref h_this] : List Value).toArray 3 from by rw [hargs], lg_entry_eq]
  generalize (lg_sl ([.ref h_this]) ++ List.replicate (3 - (lg_sl ([.ref h_this])).length) Slot.unset).toArray = ls at hl ⊢
  have hl : lv_has ls 3 [(0, .ref h_this)] := hl
  obtain ⟨Q, hQ⟩ : ∃ Q, Q = MQ below (xQ (dC, dI) [(h_this, .inr (5, [.ref h_signs, .int v_size, .int t.1, .int t.2.1, .int t.2.2, .long v_letters])), (h_signs, .inl (cC, 1000, .inl v_signs))] A (none)) args s 0 0 A := ⟨_, rfl⟩
  rw [← hQ]
  show W p l e rm_Text_readPoint s m args below meth c s.heap [] 0 0 Q _
  obtain ⟨H, hH⟩ : ∃ H, H = s.heap := ⟨_, rfl⟩
  obtain ⟨locs, hlocs⟩ : ∃ L : List Loc, L = [] := ⟨_, rfl⟩
  rw [← hlocs] at hS ⊢
  have hS : va_S A s.heap H locs := by rw [hH]; exact hS
  rw [← hH] at hP ⊢
  replace hf := f_Text_readPoint_u hf
  refine lv_aload_n hx hb d_Text_readPoint_0 rfl (lv_at hl 0 rfl) ?_
  refine lv_dup hx hb d_Text_readPoint_1 rfl ?_
  refine va_get (D := (dC, dI)) (ci := 5) (v := .int v_at) (C := R_Text) (T := T_Text) (N := 6) hx hb hT i_Text hown hK hP 0 rfl rfl 2 (by decide) (hT _ kF_Text_19) (fun _ h9 => h9) rfl d_Text_readPoint_2 ?_
  refine lv_iconst (v := 1) hx hb d_Text_readPoint_5 (by decide) ?_
  refine lv_iadd hx hb d_Text_readPoint_6 ?_
  refine va_put (D := (dC, dI)) (ci := 5) (v := .int (v_at + 1)) (ty := .int) (C := R_Text) (T := T_Text) (N := 6) hx hb hT i_Text ty_Text ty_Text_ok n_Text hown hK hP hD hS 0 rfl rfl 2 (by decide) (hT _ kF_Text_19) (fun _ h9 => h9) rfl (by decide +kernel) rfl rfl (Nat.le_of_ble_eq_true rfl) d_Text_readPoint_7 (fun H locs hP hD hS => ?_)
  have hP : va_P (dC, dI) vwCl [(h_this, .inr (5, [.ref h_signs, .int v_size, .int (v_at + 1), .int v_kind, .int v_amount, .long v_letters])), (h_signs, .inl (cC, 1000, .inl v_signs))] H := hP
  have hD : va_D A [(h_this, .inr (5, [.ref h_signs, .int v_size, .int (v_at + 1), .int v_kind, .int v_amount, .long v_letters])), (h_signs, .inl (cC, 1000, .inl v_signs))] := hD
  refine lv_aload_n hx hb d_Text_readPoint_10 rfl (lv_at hl 0 rfl) ?_
  obtain ⟨t_1, hg_1, hf⟩ := o_bind hf
  refine x_virt (w' := [(h_this, .inr (5, [.ref h_signs, .int v_size, .int t_1.2.1, .int v_kind, .int t_1.2.2, .long v_letters])), (h_signs, .inl (cC, 1000, .inl v_signs))]) (As := []) (rest := []) hx hb hml hl.1 hown hT hK hN hP hD hS hA (c_Text_readDigits l dC dI cI cL cC h_this h_signs H.size fu v_size (v_at + 1) v_kind v_amount v_letters v_signs t_1 hg_1) kM_Text_52 kI_Text_readDigits kS_53 kN_Text kC_Text_readDigits hd_Text_readDigits rfl 0 rfl rfl rfl ⟨Nat.le_of_ble_eq_true rfl, Nat.le_of_ble_eq_true rfl⟩ rfl rfl ⟨Nat.zero_le _, Nat.zero_le _⟩ rfl (Nat.le_of_ble_eq_true rfl) d_Text_readPoint_11 [0, 1] rfl rfl [.inr 0, .inr 1] rfl rfl rfl (fun H locs hP hD hS => ?_)
  refine lv_istore_n (lv' := [(1, .int t_1.1), (0, .ref h_this)]) hx hb d_Text_readPoint_14 rfl hl (by decide) rfl (fun ls hl => ?_)
  refine lv_iload_n hx hb d_Text_readPoint_15 rfl (lv_at hl 0 rfl) ?_
  refine lv_if_le (tgt := 38) hx hb d_Text_readPoint_16 (by decide) (fun c_2 => ?_) (fun c_2 => ?_)
  · replace hf := o_pos c_2 hf
    refine lv_iconst (v := 0) hx hb d_Text_readPoint_38 (by decide) ?_
    refine lv_istore_n (lv' := [(2, .int 0), (1, .int t_1.1), (0, .ref h_this)]) hx hb d_Text_readPoint_39 rfl hl (by decide) rfl (fun ls hl => ?_)
    refine lv_aload_n hx hb d_Text_readPoint_40 rfl (lv_at hl 2 rfl) ?_
    refine lv_iload_n hx hb d_Text_readPoint_41 rfl (lv_at hl 0 rfl) ?_
    refine lv_if_eq (tgt := 49) hx hb d_Text_readPoint_42 (by decide) (fun c_3 => ?_) (fun c_3 => ?_)
    · replace hf := o_pos c_3 hf
      refine lv_iconst (v := 1) hx hb d_Text_readPoint_49 (by decide) ?_
      refine va_put (D := (dC, dI)) (ci := 5) (v := .int 1) (ty := .int) (C := R_Text) (T := T_Text) (N := 6) hx hb hT i_Text ty_Text ty_Text_ok n_Text hown hK hP hD hS 0 rfl rfl 3 (by decide) (hT _ kF_Text_29) (fun _ h9 => h9) rfl (by decide +kernel) rfl rfl (Nat.le_of_ble_eq_true rfl) d_Text_readPoint_50 (fun H locs hP hD hS => ?_)
      have hP : va_P (dC, dI) vwCl [(h_this, .inr (5, [.ref h_signs, .int v_size, .int t_1.2.1, .int 1, .int t_1.2.2, .long v_letters])), (h_signs, .inl (cC, 1000, .inl v_signs))] H := hP
      have hD : va_D A [(h_this, .inr (5, [.ref h_signs, .int v_size, .int t_1.2.1, .int 1, .int t_1.2.2, .long v_letters])), (h_signs, .inl (cC, 1000, .inl v_signs))] := hD
      rw [hQ, ← Option.some.inj hf]
      exact W.vret hx hb hr (fun t9 ht9 hW9 => ⟨rfl, by rw [ht9]; exact hP, hS.F ht9⟩) hS.2.2 d_Text_readPoint_53
    · replace hf := o_neg c_3 hf
      refine lv_iconst (v := 4) hx hb d_Text_readPoint_45 (by decide) ?_
      refine lv_goto (tgt := 50) hx hb d_Text_readPoint_46 (by decide) ?_
      refine va_put (D := (dC, dI)) (ci := 5) (v := .int 4) (ty := .int) (C := R_Text) (T := T_Text) (N := 6) hx hb hT i_Text ty_Text ty_Text_ok n_Text hown hK hP hD hS 0 rfl rfl 3 (by decide) (hT _ kF_Text_29) (fun _ h9 => h9) rfl (by decide +kernel) rfl rfl (Nat.le_of_ble_eq_true rfl) d_Text_readPoint_50 (fun H locs hP hD hS => ?_)
      have hP : va_P (dC, dI) vwCl [(h_this, .inr (5, [.ref h_signs, .int v_size, .int t_1.2.1, .int 4, .int t_1.2.2, .long v_letters])), (h_signs, .inl (cC, 1000, .inl v_signs))] H := hP
      have hD : va_D A [(h_this, .inr (5, [.ref h_signs, .int v_size, .int t_1.2.1, .int 4, .int t_1.2.2, .long v_letters])), (h_signs, .inl (cC, 1000, .inl v_signs))] := hD
      rw [hQ, ← Option.some.inj hf]
      exact W.vret hx hb hr (fun t9 ht9 hW9 => ⟨rfl, by rw [ht9]; exact hP, hS.F ht9⟩) hS.2.2 d_Text_readPoint_53
  · replace hf := o_neg c_2 hf
    refine lv_iload_n hx hb d_Text_readPoint_19 rfl (lv_at hl 0 rfl) ?_
    refine lv_iconst (v := 2) hx hb d_Text_readPoint_20 (by decide) ?_
    refine lv_icmp_gt (tgt := 38) hx hb d_Text_readPoint_21 (by decide) (fun c_4 => ?_) (fun c_4 => ?_)
    · replace hf := o_pos c_4 hf
      refine lv_iconst (v := 0) hx hb d_Text_readPoint_38 (by decide) ?_
      refine lv_istore_n (lv' := [(2, .int 0), (1, .int t_1.1), (0, .ref h_this)]) hx hb d_Text_readPoint_39 rfl hl (by decide) rfl (fun ls hl => ?_)
      refine lv_aload_n hx hb d_Text_readPoint_40 rfl (lv_at hl 2 rfl) ?_
      refine lv_iload_n hx hb d_Text_readPoint_41 rfl (lv_at hl 0 rfl) ?_
      refine lv_if_eq (tgt := 49) hx hb d_Text_readPoint_42 (by decide) (fun c_5 => ?_) (fun c_5 => ?_)
      · replace hf := o_pos c_5 hf
        refine lv_iconst (v := 1) hx hb d_Text_readPoint_49 (by decide) ?_
        refine va_put (D := (dC, dI)) (ci := 5) (v := .int 1) (ty := .int) (C := R_Text) (T := T_Text) (N := 6) hx hb hT i_Text ty_Text ty_Text_ok n_Text hown hK hP hD hS 0 rfl rfl 3 (by decide) (hT _ kF_Text_29) (fun _ h9 => h9) rfl (by decide +kernel) rfl rfl (Nat.le_of_ble_eq_true rfl) d_Text_readPoint_50 (fun H locs hP hD hS => ?_)
        have hP : va_P (dC, dI) vwCl [(h_this, .inr (5, [.ref h_signs, .int v_size, .int t_1.2.1, .int 1, .int t_1.2.2, .long v_letters])), (h_signs, .inl (cC, 1000, .inl v_signs))] H := hP
        have hD : va_D A [(h_this, .inr (5, [.ref h_signs, .int v_size, .int t_1.2.1, .int 1, .int t_1.2.2, .long v_letters])), (h_signs, .inl (cC, 1000, .inl v_signs))] := hD
        rw [hQ, ← Option.some.inj hf]
        exact W.vret hx hb hr (fun t9 ht9 hW9 => ⟨rfl, by rw [ht9]; exact hP, hS.F ht9⟩) hS.2.2 d_Text_readPoint_53
      · replace hf := o_neg c_5 hf
        refine lv_iconst (v := 4) hx hb d_Text_readPoint_45 (by decide) ?_
        refine lv_goto (tgt := 50) hx hb d_Text_readPoint_46 (by decide) ?_
        refine va_put (D := (dC, dI)) (ci := 5) (v := .int 4) (ty := .int) (C := R_Text) (T := T_Text) (N := 6) hx hb hT i_Text ty_Text ty_Text_ok n_Text hown hK hP hD hS 0 rfl rfl 3 (by decide) (hT _ kF_Text_29) (fun _ h9 => h9) rfl (by decide +kernel) rfl rfl (Nat.le_of_ble_eq_true rfl) d_Text_readPoint_50 (fun H locs hP hD hS => ?_)
        have hP : va_P (dC, dI) vwCl [(h_this, .inr (5, [.ref h_signs, .int v_size, .int t_1.2.1, .int 4, .int t_1.2.2, .long v_letters])), (h_signs, .inl (cC, 1000, .inl v_signs))] H := hP
        have hD : va_D A [(h_this, .inr (5, [.ref h_signs, .int v_size, .int t_1.2.1, .int 4, .int t_1.2.2, .long v_letters])), (h_signs, .inl (cC, 1000, .inl v_signs))] := hD
        rw [hQ, ← Option.some.inj hf]
        exact W.vret hx hb hr (fun t9 ht9 hW9 => ⟨rfl, by rw [ht9]; exact hP, hS.F ht9⟩) hS.2.2 d_Text_readPoint_53
    · replace hf := o_neg c_4 hf
      refine lv_aload_n hx hb d_Text_readPoint_24 rfl (lv_at hl 1 rfl) ?_
      refine va_get (D := (dC, dI)) (ci := 5) (v := .int t_1.2.2) (C := R_Text) (T := T_Text) (N := 6) hx hb hT i_Text hown hK hP 0 rfl rfl 4 (by decide) (hT _ kF_Text_56) (fun _ h9 => h9) rfl d_Text_readPoint_25 ?_
      obtain ⟨t_6, hg_6, hf⟩ := o_bind hf
      refine x_statN (w' := [(h_this, .inr (5, [.ref h_signs, .int v_size, .int t_1.2.1, .int v_kind, .int t_1.2.2, .long v_letters])), (h_signs, .inl (cC, 1000, .inl v_signs))]) (As := [.int t_1.2.2]) (rest := []) hx hb hml hl.1 hown hT hK hN hP hD hS hA (c_FaultRules_isPoint l dC dI cI cL cC H.size t_1.2.2 t_6 hg_6) hN kT_FaultRules_isPoint kN_FaultRules kC_FaultRules_isPoint hd_FaultRules_isPoint rfl ⟨Nat.le_of_ble_eq_true rfl, Nat.le_of_ble_eq_true rfl⟩ rfl rfl ⟨Nat.zero_le _, Nat.zero_le _⟩ rfl (Nat.le_of_ble_eq_true rfl) d_Text_readPoint_28 [] rfl rfl [.inl 0, .inl 1] rfl rfl rfl (fun H locs hP hD hS => ?_)
      refine lv_if_eq (tgt := 38) hx hb d_Text_readPoint_31 (by decide) (fun c_7 => ?_) (fun c_7 => ?_)
      · replace hf := o_pos c_7 hf
        refine lv_iconst (v := 0) hx hb d_Text_readPoint_38 (by decide) ?_
        refine lv_istore_n (lv' := [(2, .int 0), (1, .int t_1.1), (0, .ref h_this)]) hx hb d_Text_readPoint_39 rfl hl (by decide) rfl (fun ls hl => ?_)
        refine lv_aload_n hx hb d_Text_readPoint_40 rfl (lv_at hl 2 rfl) ?_
        refine lv_iload_n hx hb d_Text_readPoint_41 rfl (lv_at hl 0 rfl) ?_
        refine lv_if_eq (tgt := 49) hx hb d_Text_readPoint_42 (by decide) (fun c_8 => ?_) (fun c_8 => ?_)
        · replace hf := o_pos c_8 hf
          refine lv_iconst (v := 1) hx hb d_Text_readPoint_49 (by decide) ?_
          refine va_put (D := (dC, dI)) (ci := 5) (v := .int 1) (ty := .int) (C := R_Text) (T := T_Text) (N := 6) hx hb hT i_Text ty_Text ty_Text_ok n_Text hown hK hP hD hS 0 rfl rfl 3 (by decide) (hT _ kF_Text_29) (fun _ h9 => h9) rfl (by decide +kernel) rfl rfl (Nat.le_of_ble_eq_true rfl) d_Text_readPoint_50 (fun H locs hP hD hS => ?_)
          have hP : va_P (dC, dI) vwCl [(h_this, .inr (5, [.ref h_signs, .int v_size, .int t_1.2.1, .int 1, .int t_1.2.2, .long v_letters])), (h_signs, .inl (cC, 1000, .inl v_signs))] H := hP
          have hD : va_D A [(h_this, .inr (5, [.ref h_signs, .int v_size, .int t_1.2.1, .int 1, .int t_1.2.2, .long v_letters])), (h_signs, .inl (cC, 1000, .inl v_signs))] := hD
          rw [hQ, ← Option.some.inj hf]
          exact W.vret hx hb hr (fun t9 ht9 hW9 => ⟨rfl, by rw [ht9]; exact hP, hS.F ht9⟩) hS.2.2 d_Text_readPoint_53
        · replace hf := o_neg c_8 hf
          refine lv_iconst (v := 4) hx hb d_Text_readPoint_45 (by decide) ?_
          refine lv_goto (tgt := 50) hx hb d_Text_readPoint_46 (by decide) ?_
          refine va_put (D := (dC, dI)) (ci := 5) (v := .int 4) (ty := .int) (C := R_Text) (T := T_Text) (N := 6) hx hb hT i_Text ty_Text ty_Text_ok n_Text hown hK hP hD hS 0 rfl rfl 3 (by decide) (hT _ kF_Text_29) (fun _ h9 => h9) rfl (by decide +kernel) rfl rfl (Nat.le_of_ble_eq_true rfl) d_Text_readPoint_50 (fun H locs hP hD hS => ?_)
          have hP : va_P (dC, dI) vwCl [(h_this, .inr (5, [.ref h_signs, .int v_size, .int t_1.2.1, .int 4, .int t_1.2.2, .long v_letters])), (h_signs, .inl (cC, 1000, .inl v_signs))] H := hP
          have hD : va_D A [(h_this, .inr (5, [.ref h_signs, .int v_size, .int t_1.2.1, .int 4, .int t_1.2.2, .long v_letters])), (h_signs, .inl (cC, 1000, .inl v_signs))] := hD
          rw [hQ, ← Option.some.inj hf]
          exact W.vret hx hb hr (fun t9 ht9 hW9 => ⟨rfl, by rw [ht9]; exact hP, hS.F ht9⟩) hS.2.2 d_Text_readPoint_53
      · replace hf := o_neg c_7 hf
        refine lv_iconst (v := 1) hx hb d_Text_readPoint_34 (by decide) ?_
        refine lv_goto (tgt := 39) hx hb d_Text_readPoint_35 (by decide) ?_
        refine lv_istore_n (lv' := [(2, .int 1), (1, .int t_1.1), (0, .ref h_this)]) hx hb d_Text_readPoint_39 rfl hl (by decide) rfl (fun ls hl => ?_)
        refine lv_aload_n hx hb d_Text_readPoint_40 rfl (lv_at hl 2 rfl) ?_
        refine lv_iload_n hx hb d_Text_readPoint_41 rfl (lv_at hl 0 rfl) ?_
        refine lv_if_eq (tgt := 49) hx hb d_Text_readPoint_42 (by decide) (fun c_9 => ?_) (fun c_9 => ?_)
        · replace hf := o_pos c_9 hf
          refine lv_iconst (v := 1) hx hb d_Text_readPoint_49 (by decide) ?_
          refine va_put (D := (dC, dI)) (ci := 5) (v := .int 1) (ty := .int) (C := R_Text) (T := T_Text) (N := 6) hx hb hT i_Text ty_Text ty_Text_ok n_Text hown hK hP hD hS 0 rfl rfl 3 (by decide) (hT _ kF_Text_29) (fun _ h9 => h9) rfl (by decide +kernel) rfl rfl (Nat.le_of_ble_eq_true rfl) d_Text_readPoint_50 (fun H locs hP hD hS => ?_)
          have hP : va_P (dC, dI) vwCl [(h_this, .inr (5, [.ref h_signs, .int v_size, .int t_1.2.1, .int 1, .int t_1.2.2, .long v_letters])), (h_signs, .inl (cC, 1000, .inl v_signs))] H := hP
          have hD : va_D A [(h_this, .inr (5, [.ref h_signs, .int v_size, .int t_1.2.1, .int 1, .int t_1.2.2, .long v_letters])), (h_signs, .inl (cC, 1000, .inl v_signs))] := hD
          rw [hQ, ← Option.some.inj hf]
          exact W.vret hx hb hr (fun t9 ht9 hW9 => ⟨rfl, by rw [ht9]; exact hP, hS.F ht9⟩) hS.2.2 d_Text_readPoint_53
        · replace hf := o_neg c_9 hf
          refine lv_iconst (v := 4) hx hb d_Text_readPoint_45 (by decide) ?_
          refine lv_goto (tgt := 50) hx hb d_Text_readPoint_46 (by decide) ?_
          refine va_put (D := (dC, dI)) (ci := 5) (v := .int 4) (ty := .int) (C := R_Text) (T := T_Text) (N := 6) hx hb hT i_Text ty_Text ty_Text_ok n_Text hown hK hP hD hS 0 rfl rfl 3 (by decide) (hT _ kF_Text_29) (fun _ h9 => h9) rfl (by decide +kernel) rfl rfl (Nat.le_of_ble_eq_true rfl) d_Text_readPoint_50 (fun H locs hP hD hS => ?_)
          have hP : va_P (dC, dI) vwCl [(h_this, .inr (5, [.ref h_signs, .int v_size, .int t_1.2.1, .int 4, .int t_1.2.2, .long v_letters])), (h_signs, .inl (cC, 1000, .inl v_signs))] H := hP
          have hD : va_D A [(h_this, .inr (5, [.ref h_signs, .int v_size, .int t_1.2.1, .int 4, .int t_1.2.2, .long v_letters])), (h_signs, .inl (cC, 1000, .inl v_signs))] := hD
          rw [hQ, ← Option.some.inj hf]
          exact W.vret hx hb hr (fun t9 ht9 hW9 => ⟨rfl, by rw [ht9]; exact hP, hS.F ht9⟩) hS.2.2 d_Text_readPoint_53
def rm_Text_kindOfLetters : Room := { frames := 0, cells := 0, slots := 0, locals := 0 }
set_option maxHeartbeats 4000000 in
set_option maxRecDepth 100000 in
theorem c_Text_kindOfLetters (l : Launch) (dC : Nat → ClassId) (dI : Nat → Nat → Nat) (cI cL cC : ClassId) (sz : Nat) (p1 : Int64) (t : Int32) (hf : f_Text_kindOfLetters p1 = some t) : Met l y_Text_kindOfLetters (Cond.code y_Text_kindOfLetters prog_7_method_11_code 2 (some .int) :: xT) rm_Text_kindOfLetters (va_Pc [.long p1] (xP (dC, dI) (xTy cI cL cC) [] sz)) (xQ (dC, dI) [] (va_A [] sz) (some (.int t))) 0 0 (va_A [] sz) := by
  refine Met.ofW (cc := prog_7_method_11_code) (maxL := 2) (ret := (some .int)) (by decide) rfl ?_
  intro p e s m args below meth c s₁ B hml hv
  obtain ⟨hargs, hsz, hP, hK, hN, hD0⟩ := hv
  have hx := B.exec
  have hb := B.bytes
  have hr := B.returns
  have hT : ∀ w ∈ xT, w.before args s = true := fun w hw => atoms_spec (ws := Cond.code y_Text_kindOfLetters prog_7_method_11_code 2 (some .int) :: xT) B.pre w (List.mem_cons_of_mem _ hw)
  have hown : s.vm.findClass R_Text = some m.cls := findClass_of_methodNamed B.named
  have hlocks := B.notSynchronized
  subst hsz
  have hD := hD0.self (sz := s.heap.size)
  generalize hAe : va_A [] s.heap.size = A at hD ⊢
  have hA : ∀ q : Nat, s.heap.size ≤ q → A q := fun q h => by rw [← hAe]; exact Or.inr h
  have hS : va_S A s.heap s.heap [] := va_S.rf
  have hP : va_P (dC, dI) vwCl [] s.heap := hP
  have hl := lv_entry ([.long p1]) (n := 2) (Nat.le_of_ble_eq_true rfl)
  rw [show entryFrame m args 2 = entryFrame m ([.long p1] : List Value).toArray 2 from by rw [hargs], lg_entry_eq]
  generalize (lg_sl ([.long p1]) ++ List.replicate (2 - (lg_sl ([.long p1])).length) Slot.unset).toArray = ls at hl ⊢
  have hl : lv_has ls 2 [(0, .long p1)] := hl
  obtain ⟨Q, hQ⟩ : ∃ Q, Q = MQ below (xQ (dC, dI) [] A (some (.int t))) args s 0 0 A := ⟨_, rfl⟩
  rw [← hQ]
  show W p l e rm_Text_kindOfLetters s m args below meth c s.heap [] 0 0 Q _
  obtain ⟨H, hH⟩ : ∃ H, H = s.heap := ⟨_, rfl⟩
  obtain ⟨locs, hlocs⟩ : ∃ L : List Loc, L = [] := ⟨_, rfl⟩
  rw [← hlocs] at hS ⊢
  have hS : va_S A s.heap H locs := by rw [hH]; exact hS
  rw [← hH] at hP ⊢
  replace hf := f_Text_kindOfLetters_u hf
  refine lv_lload_n hx hb d_Text_kindOfLetters_0 rfl (lv_at hl 0 rfl) ?_
  refine lv_ldc2 (v := 7381243658609098752) hx hb hown (hT _ kK_Text_76) d_Text_kindOfLetters_1 ?_
  refine W.lcmp hx hb d_Text_kindOfLetters_4 ?_
  refine lv_if_ne (tgt := 11) hx hb d_Text_kindOfLetters_5 (by decide) (fun c_1 => ?_) (fun c_1 => ?_)
  · replace hf := o_neg c_1 hf
    refine lv_lload_n hx hb d_Text_kindOfLetters_11 rfl (lv_at hl 0 rfl) ?_
    refine lv_ldc2 (v := 7165072476152528896) hx hb hown (hT _ kK_Text_78) d_Text_kindOfLetters_12 ?_
    refine W.lcmp hx hb d_Text_kindOfLetters_15 ?_
    refine lv_if_ne (tgt := 22) hx hb d_Text_kindOfLetters_16 (by decide) (fun c_2 => ?_) (fun c_2 => ?_)
    · replace hf := o_neg c_2 hf
      refine lv_lload_n hx hb d_Text_kindOfLetters_22 rfl (lv_at hl 0 rfl) ?_
      refine lv_ldc2 (v := 8319403481517522944) hx hb hown (hT _ kK_Text_80) d_Text_kindOfLetters_23 ?_
      refine W.lcmp hx hb d_Text_kindOfLetters_26 ?_
      refine lv_if_ne (tgt := 33) hx hb d_Text_kindOfLetters_27 (by decide) (fun c_3 => ?_) (fun c_3 => ?_)
      · replace hf := o_neg c_3 hf
        refine lv_lload_n hx hb d_Text_kindOfLetters_33 rfl (lv_at hl 0 rfl) ?_
        refine lv_ldc2 (v := 7671157868099272704) hx hb hown (hT _ kK_Text_82) d_Text_kindOfLetters_34 ?_
        refine W.lcmp hx hb d_Text_kindOfLetters_37 ?_
        refine lv_if_ne (tgt := 44) hx hb d_Text_kindOfLetters_38 (by decide) (fun c_4 => ?_) (fun c_4 => ?_)
        · replace hf := o_neg c_4 hf
          refine lv_lload_n hx hb d_Text_kindOfLetters_44 rfl (lv_at hl 0 rfl) ?_
          refine lv_ldc2 (v := 8316297369816924160) hx hb hown (hT _ kK_Text_84) d_Text_kindOfLetters_45 ?_
          refine W.lcmp hx hb d_Text_kindOfLetters_48 ?_
          refine lv_if_ne (tgt := 57) hx hb d_Text_kindOfLetters_49 (by decide) (fun c_5 => ?_) (fun c_5 => ?_)
          · replace hf := o_neg c_5 hf
            refine lv_iconst (v := 2) hx hb d_Text_kindOfLetters_57 (by decide) ?_
            rw [hQ, ← Option.some.inj hf]
            exact W.iret hx hb hr (fun t9 ht9 hW9 => ⟨rfl, by rw [ht9]; exact hP, hS.F ht9⟩) hS.2.2 d_Text_kindOfLetters_58
          · replace hf := o_pos c_5 hf
            refine lv_bipush (v := 18) hx hb d_Text_kindOfLetters_52 (by decide) ?_
            refine lv_goto (tgt := 58) hx hb d_Text_kindOfLetters_54 (by decide) ?_
            rw [hQ, ← Option.some.inj hf]
            exact W.iret hx hb hr (fun t9 ht9 hW9 => ⟨rfl, by rw [ht9]; exact hP, hS.F ht9⟩) hS.2.2 d_Text_kindOfLetters_58
        · replace hf := o_pos c_4 hf
          refine lv_bipush (v := 17) hx hb d_Text_kindOfLetters_41 (by decide) ?_
          rw [hQ, ← Option.some.inj hf]
          exact W.iret hx hb hr (fun t9 ht9 hW9 => ⟨rfl, by rw [ht9]; exact hP, hS.F ht9⟩) hS.2.2 d_Text_kindOfLetters_43
      · replace hf := o_pos c_3 hf
        refine lv_bipush (v := 16) hx hb d_Text_kindOfLetters_30 (by decide) ?_
        rw [hQ, ← Option.some.inj hf]
        exact W.iret hx hb hr (fun t9 ht9 hW9 => ⟨rfl, by rw [ht9]; exact hP, hS.F ht9⟩) hS.2.2 d_Text_kindOfLetters_32
    · replace hf := o_pos c_2 hf
      refine lv_bipush (v := 10) hx hb d_Text_kindOfLetters_19 (by decide) ?_
      rw [hQ, ← Option.some.inj hf]
      exact W.iret hx hb hr (fun t9 ht9 hW9 => ⟨rfl, by rw [ht9]; exact hP, hS.F ht9⟩) hS.2.2 d_Text_kindOfLetters_21
  · replace hf := o_pos c_1 hf
    refine lv_bipush (v := 9) hx hb d_Text_kindOfLetters_8 (by decide) ?_
    rw [hQ, ← Option.some.inj hf]
    exact W.iret hx hb hr (fun t9 ht9 hW9 => ⟨rfl, by rw [ht9]; exact hP, hS.F ht9⟩) hS.2.2 d_Text_kindOfLetters_10
def rm_Text_readLetters : Room := { frames := 1, cells := 0, slots := 0, locals := 21 }
set_option maxHeartbeats 4000000 in
set_option maxRecDepth 100000 in
theorem c_Text_readLetters (l : Launch) (dC : Nat → ClassId) (dI : Nat → Nat → Nat) (cI cL cC : ClassId) (h_this h_signs : Nat) (sz : Nat) (fu : Nat) (v_size : Int32) (v_at : Int32) (v_kind : Int32) (v_amount : Int32) (v_letters : Int64) (v_signs : Nat → Int32) (t : Int32 × Int32 × Int64) (hf : f_Text_readLetters fu v_size v_at v_kind v_letters v_signs = some t) : Met l y_Text_readLetters (Cond.code y_Text_readLetters prog_7_method_9_code 2 none :: xT) rm_Text_readLetters (va_Pc [.ref h_this] (xP (dC, dI) (xTy cI cL cC) [(h_this, .inr (5, [.ref h_signs, .int v_size, .int v_at, .int v_kind, .int v_amount, .long v_letters])), (h_signs, .inl (cC, 1000, .inl v_signs))] sz)) (xQ (dC, dI) [(h_this, .inr (5, [.ref h_signs, .int v_size, .int t.1, .int t.2.1, .int v_amount, .long t.2.2])), (h_signs, .inl (cC, 1000, .inl v_signs))] (va_A [(h_this, .inr (5, [.ref h_signs, .int v_size, .int v_at, .int v_kind, .int v_amount, .long v_letters])), (h_signs, .inl (cC, 1000, .inl v_signs))] sz) (none)) 0 0 (va_A [(h_this, .inr (5, [.ref h_signs, .int v_size, .int v_at, .int v_kind, .int v_amount, .long v_letters])), (h_signs, .inl (cC, 1000, .inl v_signs))] sz) := by
  refine Met.ofW (cc := prog_7_method_9_code) (maxL := 2) (ret := none) (by decide) rfl ?_
  intro p e s m args below meth c s₁ B hml hv
  obtain ⟨hargs, hsz, hP, hK, hN, hD0⟩ := hv
  have hx := B.exec
  have hb := B.bytes
  have hr := B.returns
  have hT : ∀ w ∈ xT, w.before args s = true := fun w hw => atoms_spec (ws := Cond.code y_Text_readLetters prog_7_method_9_code 2 none :: xT) B.pre w (List.mem_cons_of_mem _ hw)
  have hown : s.vm.findClass R_Text = some m.cls := findClass_of_methodNamed B.named
  have hlocks := B.notSynchronized
  subst hsz
  have hD := hD0.self (sz := s.heap.size)
  generalize hAe : va_A [(h_this, .inr (5, [.ref h_signs, .int v_size, .int v_at, .int v_kind, .int v_amount, .long v_letters])), (h_signs, .inl (cC, 1000, .inl v_signs))] s.heap.size = A at hD ⊢
  have hA : ∀ q : Nat, s.heap.size ≤ q → A q := fun q h => by rw [← hAe]; exact Or.inr h
  have hS : va_S A s.heap s.heap [] := va_S.rf
  have hP : va_P (dC, dI) vwCl [(h_this, .inr (5, [.ref h_signs, .int v_size, .int v_at, .int v_kind, .int v_amount, .long v_letters])), (h_signs, .inl (cC, 1000, .inl v_signs))] s.heap := hP
  have hl := lv_entry ([.ref h_this]) (n := 2) (Nat.le_of_ble_eq_true rfl)
  rw [show entryFrame m args 2 = entryFrame m ([.ref h_this] : List Value).toArray 2 from by rw [hargs], lg_entry_eq]
  generalize (lg_sl ([.ref h_this]) ++ List.replicate (2 - (lg_sl ([.ref h_this])).length) Slot.unset).toArray = ls at hl ⊢
  have hl : lv_has ls 2 [(0, .ref h_this)] := hl
  obtain ⟨Q, hQ⟩ : ∃ Q, Q = MQ below (xQ (dC, dI) [(h_this, .inr (5, [.ref h_signs, .int v_size, .int t.1, .int t.2.1, .int v_amount, .long t.2.2])), (h_signs, .inl (cC, 1000, .inl v_signs))] A (none)) args s 0 0 A := ⟨_, rfl⟩
  rw [← hQ]
  show W p l e rm_Text_readLetters s m args below meth c s.heap [] 0 0 Q _
  obtain ⟨H, hH⟩ : ∃ H, H = s.heap := ⟨_, rfl⟩
  obtain ⟨locs, hlocs⟩ : ∃ L : List Loc, L = [] := ⟨_, rfl⟩
  rw [← hlocs] at hS ⊢
  have hS : va_S A s.heap H locs := by rw [hH]; exact hS
  rw [← hH] at hP ⊢
  replace hf := f_Text_readLetters_u hf
  refine lv_iconst (v := 0) hx hb d_Text_readLetters_0 (by decide) ?_
  refine lv_istore_n (lv' := [(1, .int 0), (0, .ref h_this)]) hx hb d_Text_readLetters_1 rfl hl (by decide) rfl (fun ls hl => ?_)
  refine lv_aload_n hx hb d_Text_readLetters_2 rfl (lv_at hl 1 rfl) ?_
  refine lv_lconst (v := 0) hx hb d_Text_readLetters_3 (by decide) ?_
  refine va_put (D := (dC, dI)) (ci := 5) (v := .long 0) (ty := .long) (C := R_Text) (T := T_Text) (N := 6) hx hb hT i_Text ty_Text ty_Text_ok n_Text hown hK hP hD hS 0 rfl rfl 5 (by decide) (hT _ kF_Text_64) (fun _ h9 => h9) rfl (by decide +kernel) rfl rfl (Nat.le_of_ble_eq_true rfl) d_Text_readLetters_4 (fun H locs hP hD hS => ?_)
  have hP : va_P (dC, dI) vwCl [(h_this, .inr (5, [.ref h_signs, .int v_size, .int v_at, .int v_kind, .int v_amount, .long 0])), (h_signs, .inl (cC, 1000, .inl v_signs))] H := hP
  have hD : va_D A [(h_this, .inr (5, [.ref h_signs, .int v_size, .int v_at, .int v_kind, .int v_amount, .long 0])), (h_signs, .inl (cC, 1000, .inl v_signs))] := hD
  have lp_7 : ∀ (k_82 : Int32 → (Int32) → (Int64) → Option (Int32 × Int32 × Int64)) (hk_82 : ∀ (l1_7e : Int32) (v_at_7e : Int32) (v_letters_7e : Int64) (H : Heap) (locs : List Loc) (ls : Array Slot), k_82 l1_7e v_at_7e v_letters_7e = some t → va_P (dC, dI) vwCl [(h_this, .inr (5, [.ref h_signs, .int v_size, .int v_at_7e, .int v_kind, .int v_amount, .long v_letters_7e])), (h_signs, .inl (cC, 1000, .inl v_signs))] H → va_D A [(h_this, .inr (5, [.ref h_signs, .int v_size, .int v_at_7e, .int v_kind, .int v_amount, .long v_letters_7e])), (h_signs, .inl (cC, 1000, .inl v_signs))] → va_S A s.heap H locs → lv_has ls 2 [(0, .ref h_this), (1, .int l1_7e)] → W p l e rm_Text_readLetters s m args below meth c H locs 0 0 Q (F0 m 82 ls [])), ∀ (n : Nat) (l1_7 : Int32) (v_at_7 : Int32) (v_letters_7 : Int64) (H : Heap) (locs : List Loc) (ls : Array Slot), L_Text_readLetters_7 fu v_size v_signs k_82 n l1_7 v_at_7 v_letters_7 = some t → va_P (dC, dI) vwCl [(h_this, .inr (5, [.ref h_signs, .int v_size, .int v_at_7, .int v_kind, .int v_amount, .long v_letters_7])), (h_signs, .inl (cC, 1000, .inl v_signs))] H → va_D A [(h_this, .inr (5, [.ref h_signs, .int v_size, .int v_at_7, .int v_kind, .int v_amount, .long v_letters_7])), (h_signs, .inl (cC, 1000, .inl v_signs))] → va_S A s.heap H locs → lv_has ls 2 [(0, .ref h_this), (1, .int l1_7)] → W p l e rm_Text_readLetters s m args below meth c H locs 0 0 Q (F0 m 7 ls []) := by
    intro k_82 hk_82 n
    induction n with
    | zero => intro l1_7 v_at_7 v_letters_7 H locs ls hf; exact (L_Text_readLetters_7_z hf).elim
    | succ n ih =>
      intro l1_7 v_at_7 v_letters_7 H locs ls hf hP hD hS hl
      replace hf := L_Text_readLetters_7_u hf
      refine lv_aload_n hx hb d_Text_readLetters_7 rfl (lv_at hl 0 rfl) ?_
      refine va_get (D := (dC, dI)) (ci := 5) (v := .int v_at_7) (C := R_Text) (T := T_Text) (N := 6) hx hb hT i_Text hown hK hP 0 rfl rfl 2 (by decide) (hT _ kF_Text_19) (fun _ h9 => h9) rfl d_Text_readLetters_8 ?_
      refine lv_aload_n hx hb d_Text_readLetters_11 rfl (lv_at hl 0 rfl) ?_
      refine va_get (D := (dC, dI)) (ci := 5) (v := .int v_size) (C := R_Text) (T := T_Text) (N := 6) hx hb hT i_Text hown hK hP 0 rfl rfl 1 (by decide) (hT _ kF_Text_15) (fun _ h9 => h9) rfl d_Text_readLetters_12 ?_
      refine lv_icmp_ge (tgt := 82) hx hb d_Text_readLetters_15 (by decide) (fun c_1 => ?_) (fun c_1 => ?_)
      · replace hf := o_pos c_1 hf
        exact hk_82 l1_7 v_at_7 v_letters_7 H locs ls hf hP hD hS (lv_sub hl [0, 1] rfl)
      · replace hf := o_neg c_1 hf
        refine lv_aload_n hx hb d_Text_readLetters_18 rfl (lv_at hl 0 rfl) ?_
        refine va_get (D := (dC, dI)) (ci := 5) (v := .ref h_signs) (C := R_Text) (T := T_Text) (N := 6) hx hb hT i_Text hown hK hP 0 rfl rfl 0 (by decide) (hT _ kF_Text_9) (fun _ h9 => h9) rfl d_Text_readLetters_19 ?_
        refine lv_aload_n hx hb d_Text_readLetters_22 rfl (lv_at hl 0 rfl) ?_
        refine va_get (D := (dC, dI)) (ci := 5) (v := .int v_at_7) (C := R_Text) (T := T_Text) (N := 6) hx hb hT i_Text hown hK hP 0 rfl rfl 2 (by decide) (hT _ kF_Text_19) (fun _ h9 => h9) rfl d_Text_readLetters_23 ?_
        obtain ⟨hi_2, hf⟩ := o_in hf
        refine va_cald hx hb hK hP 1 2 rfl rfl hi_2 d_Text_readLetters_26 ?_
        obtain ⟨t_3, hg_3, hf⟩ := o_bind hf
        refine x_stat (w' := [(h_this, .inr (5, [.ref h_signs, .int v_size, .int v_at_7, .int v_kind, .int v_amount, .long v_letters_7])), (h_signs, .inl (cC, 1000, .inl v_signs))]) (As := [.int (v_signs (v_at_7 : Int32).toNatClampNeg)]) (rest := []) hx hb hml hl.1 hown hT hK hN hP hD hS hA (c_Text_isLetter l dC dI cI cL cC H.size (v_signs (v_at_7 : Int32).toNatClampNeg) t_3 hg_3) kM_Text_32 kT_Text_isLetter kN_Text kC_Text_isLetter hd_Text_isLetter rfl ⟨Nat.le_of_ble_eq_true rfl, Nat.le_of_ble_eq_true rfl⟩ rfl rfl ⟨Nat.zero_le _, Nat.zero_le _⟩ rfl (Nat.le_of_ble_eq_true rfl) d_Text_readLetters_27 [] rfl rfl [.inl 0, .inl 1] rfl rfl rfl (fun H locs hP hD hS => ?_)
        refine lv_if_eq (tgt := 82) hx hb d_Text_readLetters_30 (by decide) (fun c_4 => ?_) (fun c_4 => ?_)
        · replace hf := o_pos c_4 hf
          exact hk_82 l1_7 v_at_7 v_letters_7 H locs ls hf hP hD hS (lv_sub hl [0, 1] rfl)
        · replace hf := o_neg c_4 hf
          refine lv_iload_n hx hb d_Text_readLetters_33 rfl (lv_at hl 1 rfl) ?_
          refine lv_bipush (v := 8) hx hb d_Text_readLetters_34 (by decide) ?_
          refine lv_icmp_ge (tgt := 66) hx hb d_Text_readLetters_36 (by decide) (fun c_5 => ?_) (fun c_5 => ?_)
          · replace hf := o_pos c_5 hf
            refine lv_iinc (v := l1_7 + 1) (lv' := [(1, .int (l1_7 + 1)), (0, .ref h_this)]) hx hb d_Text_readLetters_66 hl (k := 1) rfl rfl (by decide) rfl (fun ls hl => ?_)
            refine lv_aload_n hx hb d_Text_readLetters_69 rfl (lv_at hl 1 rfl) ?_
            refine lv_dup hx hb d_Text_readLetters_70 rfl ?_
            refine va_get (D := (dC, dI)) (ci := 5) (v := .int v_at_7) (C := R_Text) (T := T_Text) (N := 6) hx hb hT i_Text hown hK hP 0 rfl rfl 2 (by decide) (hT _ kF_Text_19) (fun _ h9 => h9) rfl d_Text_readLetters_71 ?_
            refine lv_iconst (v := 1) hx hb d_Text_readLetters_74 (by decide) ?_
            refine lv_iadd hx hb d_Text_readLetters_75 ?_
            refine va_put (D := (dC, dI)) (ci := 5) (v := .int (v_at_7 + 1)) (ty := .int) (C := R_Text) (T := T_Text) (N := 6) hx hb hT i_Text ty_Text ty_Text_ok n_Text hown hK hP hD hS 0 rfl rfl 2 (by decide) (hT _ kF_Text_19) (fun _ h9 => h9) rfl (by decide +kernel) rfl rfl (Nat.le_of_ble_eq_true rfl) d_Text_readLetters_76 (fun H locs hP hD hS => ?_)
            have hP : va_P (dC, dI) vwCl [(h_this, .inr (5, [.ref h_signs, .int v_size, .int (v_at_7 + 1), .int v_kind, .int v_amount, .long v_letters_7])), (h_signs, .inl (cC, 1000, .inl v_signs))] H := hP
            have hD : va_D A [(h_this, .inr (5, [.ref h_signs, .int v_size, .int (v_at_7 + 1), .int v_kind, .int v_amount, .long v_letters_7])), (h_signs, .inl (cC, 1000, .inl v_signs))] := hD
            refine lv_goto (tgt := 7) hx hb d_Text_readLetters_79 (by decide) ?_
            exact ih (l1_7 + 1) (v_at_7 + 1) v_letters_7 H locs ls hf hP hD hS (lv_sub hl [1, 0] rfl)
          · replace hf := o_neg c_5 hf
            refine lv_aload_n hx hb d_Text_readLetters_39 rfl (lv_at hl 0 rfl) ?_
            refine lv_dup hx hb d_Text_readLetters_40 rfl ?_
            refine va_get (D := (dC, dI)) (ci := 5) (v := .long v_letters_7) (C := R_Text) (T := T_Text) (N := 6) hx hb hT i_Text hown hK hP 0 rfl rfl 5 (by decide) (hT _ kF_Text_64) (fun _ h9 => h9) rfl d_Text_readLetters_41 ?_
            refine lv_aload_n hx hb d_Text_readLetters_44 rfl (lv_at hl 0 rfl) ?_
            refine va_get (D := (dC, dI)) (ci := 5) (v := .ref h_signs) (C := R_Text) (T := T_Text) (N := 6) hx hb hT i_Text hown hK hP 0 rfl rfl 0 (by decide) (hT _ kF_Text_9) (fun _ h9 => h9) rfl d_Text_readLetters_45 ?_
            refine lv_aload_n hx hb d_Text_readLetters_48 rfl (lv_at hl 0 rfl) ?_
            refine va_get (D := (dC, dI)) (ci := 5) (v := .int v_at_7) (C := R_Text) (T := T_Text) (N := 6) hx hb hT i_Text hown hK hP 0 rfl rfl 2 (by decide) (hT _ kF_Text_19) (fun _ h9 => h9) rfl d_Text_readLetters_49 ?_
            obtain ⟨hi_6, hf⟩ := o_in hf
            refine va_cald hx hb hK hP 1 2 rfl rfl hi_6 d_Text_readLetters_52 ?_
            refine lv_i2l (v := (v_signs (v_at_7 : Int32).toNatClampNeg : Int32).toInt64) hx hb d_Text_readLetters_53 rfl ?_
            refine lv_bipush (v := 56) hx hb d_Text_readLetters_54 (by decide) ?_
            refine lv_bipush (v := 8) hx hb d_Text_readLetters_56 (by decide) ?_
            refine lv_iload_n hx hb d_Text_readLetters_58 rfl (lv_at hl 1 rfl) ?_
            refine lv_imul hx hb d_Text_readLetters_59 ?_
            refine lv_isub hx hb d_Text_readLetters_60 ?_
            refine lv_lshl (v := ((v_signs (v_at_7 : Int32).toNatClampNeg : Int32).toInt64) <<< ((56 - (8 * l1_7) : Int32).toInt64 &&& 63)) hx hb d_Text_readLetters_61 rfl ?_
            refine lv_lor hx hb d_Text_readLetters_62 ?_
            refine va_put (D := (dC, dI)) (ci := 5) (v := .long (v_letters_7 ||| (((v_signs (v_at_7 : Int32).toNatClampNeg : Int32).toInt64) <<< ((56 - (8 * l1_7) : Int32).toInt64 &&& 63)))) (ty := .long) (C := R_Text) (T := T_Text) (N := 6) hx hb hT i_Text ty_Text ty_Text_ok n_Text hown hK hP hD hS 0 rfl rfl 5 (by decide) (hT _ kF_Text_64) (fun _ h9 => h9) rfl (by decide +kernel) rfl rfl (Nat.le_of_ble_eq_true rfl) d_Text_readLetters_63 (fun H locs hP hD hS => ?_)
            have hP : va_P (dC, dI) vwCl [(h_this, .inr (5, [.ref h_signs, .int v_size, .int v_at_7, .int v_kind, .int v_amount, .long (v_letters_7 ||| (((v_signs (v_at_7 : Int32).toNatClampNeg : Int32).toInt64) <<< ((56 - (8 * l1_7) : Int32).toInt64 &&& 63)))])), (h_signs, .inl (cC, 1000, .inl v_signs))] H := hP
            have hD : va_D A [(h_this, .inr (5, [.ref h_signs, .int v_size, .int v_at_7, .int v_kind, .int v_amount, .long (v_letters_7 ||| (((v_signs (v_at_7 : Int32).toNatClampNeg : Int32).toInt64) <<< ((56 - (8 * l1_7) : Int32).toInt64 &&& 63)))])), (h_signs, .inl (cC, 1000, .inl v_signs))] := hD
            refine lv_iinc (v := l1_7 + 1) (lv' := [(1, .int (l1_7 + 1)), (0, .ref h_this)]) hx hb d_Text_readLetters_66 hl (k := 1) rfl rfl (by decide) rfl (fun ls hl => ?_)
            refine lv_aload_n hx hb d_Text_readLetters_69 rfl (lv_at hl 1 rfl) ?_
            refine lv_dup hx hb d_Text_readLetters_70 rfl ?_
            refine va_get (D := (dC, dI)) (ci := 5) (v := .int v_at_7) (C := R_Text) (T := T_Text) (N := 6) hx hb hT i_Text hown hK hP 0 rfl rfl 2 (by decide) (hT _ kF_Text_19) (fun _ h9 => h9) rfl d_Text_readLetters_71 ?_
            refine lv_iconst (v := 1) hx hb d_Text_readLetters_74 (by decide) ?_
            refine lv_iadd hx hb d_Text_readLetters_75 ?_
            refine va_put (D := (dC, dI)) (ci := 5) (v := .int (v_at_7 + 1)) (ty := .int) (C := R_Text) (T := T_Text) (N := 6) hx hb hT i_Text ty_Text ty_Text_ok n_Text hown hK hP hD hS 0 rfl rfl 2 (by decide) (hT _ kF_Text_19) (fun _ h9 => h9) rfl (by decide +kernel) rfl rfl (Nat.le_of_ble_eq_true rfl) d_Text_readLetters_76 (fun H locs hP hD hS => ?_)
            have hP : va_P (dC, dI) vwCl [(h_this, .inr (5, [.ref h_signs, .int v_size, .int (v_at_7 + 1), .int v_kind, .int v_amount, .long (v_letters_7 ||| (((v_signs (v_at_7 : Int32).toNatClampNeg : Int32).toInt64) <<< ((56 - (8 * l1_7) : Int32).toInt64 &&& 63)))])), (h_signs, .inl (cC, 1000, .inl v_signs))] H := hP
            have hD : va_D A [(h_this, .inr (5, [.ref h_signs, .int v_size, .int (v_at_7 + 1), .int v_kind, .int v_amount, .long (v_letters_7 ||| (((v_signs (v_at_7 : Int32).toNatClampNeg : Int32).toInt64) <<< ((56 - (8 * l1_7) : Int32).toInt64 &&& 63)))])), (h_signs, .inl (cC, 1000, .inl v_signs))] := hD
            refine lv_goto (tgt := 7) hx hb d_Text_readLetters_79 (by decide) ?_
            exact ih (l1_7 + 1) (v_at_7 + 1) (v_letters_7 ||| (((v_signs (v_at_7 : Int32).toNatClampNeg : Int32).toInt64) <<< ((56 - (8 * l1_7) : Int32).toInt64 &&& 63))) H locs ls hf hP hD hS (lv_sub hl [1, 0] rfl)
  refine lp_7 _ (fun l1_7e v_at_7e v_letters_7e H locs ls hf hP hD hS hl => ?_) fu 0 v_at 0 H locs ls hf hP hD hS (lv_sub hl [1, 0] rfl)
  refine lv_aload_n hx hb d_Text_readLetters_82 rfl (lv_at hl 0 rfl) ?_
  refine lv_iload_n hx hb d_Text_readLetters_83 rfl (lv_at hl 1 rfl) ?_
  refine lv_bipush (v := 8) hx hb d_Text_readLetters_84 (by decide) ?_
  refine lv_icmp_gt (tgt := 99) hx hb d_Text_readLetters_86 (by decide) (fun c_7 => ?_) (fun c_7 => ?_)
  · replace hf := o_pos c_7 hf
    refine lv_iconst (v := 1) hx hb d_Text_readLetters_99 (by decide) ?_
    refine va_put (D := (dC, dI)) (ci := 5) (v := .int 1) (ty := .int) (C := R_Text) (T := T_Text) (N := 6) hx hb hT i_Text ty_Text ty_Text_ok n_Text hown hK hP hD hS 0 rfl rfl 3 (by decide) (hT _ kF_Text_29) (fun _ h9 => h9) rfl (by decide +kernel) rfl rfl (Nat.le_of_ble_eq_true rfl) d_Text_readLetters_100 (fun H locs hP hD hS => ?_)
    have hP : va_P (dC, dI) vwCl [(h_this, .inr (5, [.ref h_signs, .int v_size, .int v_at_7e, .int 1, .int v_amount, .long v_letters_7e])), (h_signs, .inl (cC, 1000, .inl v_signs))] H := hP
    have hD : va_D A [(h_this, .inr (5, [.ref h_signs, .int v_size, .int v_at_7e, .int 1, .int v_amount, .long v_letters_7e])), (h_signs, .inl (cC, 1000, .inl v_signs))] := hD
    rw [hQ, ← Option.some.inj hf]
    exact W.vret hx hb hr (fun t9 ht9 hW9 => ⟨rfl, by rw [ht9]; exact hP, hS.F ht9⟩) hS.2.2 d_Text_readLetters_103
  · replace hf := o_neg c_7 hf
    refine lv_aload_n hx hb d_Text_readLetters_89 rfl (lv_at hl 0 rfl) ?_
    refine va_get (D := (dC, dI)) (ci := 5) (v := .long v_letters_7e) (C := R_Text) (T := T_Text) (N := 6) hx hb hT i_Text hown hK hP 0 rfl rfl 5 (by decide) (hT _ kF_Text_64) (fun _ h9 => h9) rfl d_Text_readLetters_90 ?_
    obtain ⟨t_8, hg_8, hf⟩ := o_bind hf
    refine x_stat (w' := [(h_this, .inr (5, [.ref h_signs, .int v_size, .int v_at_7e, .int v_kind, .int v_amount, .long v_letters_7e])), (h_signs, .inl (cC, 1000, .inl v_signs))]) (As := [.long v_letters_7e]) (rest := [.ref h_this]) hx hb hml hl.1 hown hT hK hN hP hD hS hA (c_Text_kindOfLetters l dC dI cI cL cC H.size v_letters_7e t_8 hg_8) kM_Text_68 kT_Text_kindOfLetters kN_Text kC_Text_kindOfLetters hd_Text_kindOfLetters rfl ⟨Nat.le_of_ble_eq_true rfl, Nat.le_of_ble_eq_true rfl⟩ rfl rfl ⟨Nat.zero_le _, Nat.zero_le _⟩ rfl (Nat.le_of_ble_eq_true rfl) d_Text_readLetters_93 [] rfl rfl [.inl 0, .inl 1] rfl rfl rfl (fun H locs hP hD hS => ?_)
    refine lv_goto (tgt := 100) hx hb d_Text_readLetters_96 (by decide) ?_
    refine va_put (D := (dC, dI)) (ci := 5) (v := .int t_8) (ty := .int) (C := R_Text) (T := T_Text) (N := 6) hx hb hT i_Text ty_Text ty_Text_ok n_Text hown hK hP hD hS 0 rfl rfl 3 (by decide) (hT _ kF_Text_29) (fun _ h9 => h9) rfl (by decide +kernel) rfl rfl (Nat.le_of_ble_eq_true rfl) d_Text_readLetters_100 (fun H locs hP hD hS => ?_)
    have hP : va_P (dC, dI) vwCl [(h_this, .inr (5, [.ref h_signs, .int v_size, .int v_at_7e, .int t_8, .int v_amount, .long v_letters_7e])), (h_signs, .inl (cC, 1000, .inl v_signs))] H := hP
    have hD : va_D A [(h_this, .inr (5, [.ref h_signs, .int v_size, .int v_at_7e, .int t_8, .int v_amount, .long v_letters_7e])), (h_signs, .inl (cC, 1000, .inl v_signs))] := hD
    rw [hQ, ← Option.some.inj hf]
    exact W.vret hx hb hr (fun t9 ht9 hW9 => ⟨rfl, by rw [ht9]; exact hP, hS.F ht9⟩) hS.2.2 d_Text_readLetters_103
def rm_Text_readNumber : Room := { frames := 2, cells := 0, slots := 0, locals := 41 }
set_option maxHeartbeats 4000000 in
set_option maxRecDepth 100000 in
theorem c_Text_readNumber (l : Launch) (dC : Nat → ClassId) (dI : Nat → Nat → Nat) (cI cL cC : ClassId) (h_this h_signs : Nat) (sz : Nat) (fu : Nat) (v_size : Int32) (v_at : Int32) (v_kind : Int32) (v_amount : Int32) (v_letters : Int64) (v_signs : Nat → Int32) (t : Int32 × Int32 × Int32) (hf : f_Text_readNumber fu v_size v_at v_kind v_amount v_signs = some t) : Met l y_Text_readNumber (Cond.code y_Text_readNumber prog_7_method_7_code 2 none :: xT) rm_Text_readNumber (va_Pc [.ref h_this] (xP (dC, dI) (xTy cI cL cC) [(h_this, .inr (5, [.ref h_signs, .int v_size, .int v_at, .int v_kind, .int v_amount, .long v_letters])), (h_signs, .inl (cC, 1000, .inl v_signs))] sz)) (xQ (dC, dI) [(h_this, .inr (5, [.ref h_signs, .int v_size, .int t.1, .int t.2.1, .int t.2.2, .long v_letters])), (h_signs, .inl (cC, 1000, .inl v_signs))] (va_A [(h_this, .inr (5, [.ref h_signs, .int v_size, .int v_at, .int v_kind, .int v_amount, .long v_letters])), (h_signs, .inl (cC, 1000, .inl v_signs))] sz) (none)) 0 0 (va_A [(h_this, .inr (5, [.ref h_signs, .int v_size, .int v_at, .int v_kind, .int v_amount, .long v_letters])), (h_signs, .inl (cC, 1000, .inl v_signs))] sz) := by
  refine Met.ofW (cc := prog_7_method_7_code) (maxL := 2) (ret := none) (by decide) rfl ?_
  intro p e s m args below meth c s₁ B hml hv
  obtain ⟨hargs, hsz, hP, hK, hN, hD0⟩ := hv
  have hx := B.exec
  have hb := B.bytes
  have hr := B.returns
  have hT : ∀ w ∈ xT, w.before args s = true := fun w hw => atoms_spec (ws := Cond.code y_Text_readNumber prog_7_method_7_code 2 none :: xT) B.pre w (List.mem_cons_of_mem _ hw)
  have hown : s.vm.findClass R_Text = some m.cls := findClass_of_methodNamed B.named
  have hlocks := B.notSynchronized
  subst hsz
  have hD := hD0.self (sz := s.heap.size)
  generalize hAe : va_A [(h_this, .inr (5, [.ref h_signs, .int v_size, .int v_at, .int v_kind, .int v_amount, .long v_letters])), (h_signs, .inl (cC, 1000, .inl v_signs))] s.heap.size = A at hD ⊢
  have hA : ∀ q : Nat, s.heap.size ≤ q → A q := fun q h => by rw [← hAe]; exact Or.inr h
  have hS : va_S A s.heap s.heap [] := va_S.rf
  have hP : va_P (dC, dI) vwCl [(h_this, .inr (5, [.ref h_signs, .int v_size, .int v_at, .int v_kind, .int v_amount, .long v_letters])), (h_signs, .inl (cC, 1000, .inl v_signs))] s.heap := hP
  have hl := lv_entry ([.ref h_this]) (n := 2) (Nat.le_of_ble_eq_true rfl)
  rw [show entryFrame m args 2 = entryFrame m ([.ref h_this] : List Value).toArray 2 from by rw [hargs], lg_entry_eq]
  generalize (lg_sl ([.ref h_this]) ++ List.replicate (2 - (lg_sl ([.ref h_this])).length) Slot.unset).toArray = ls at hl ⊢
  have hl : lv_has ls 2 [(0, .ref h_this)] := hl
  obtain ⟨Q, hQ⟩ : ∃ Q, Q = MQ below (xQ (dC, dI) [(h_this, .inr (5, [.ref h_signs, .int v_size, .int t.1, .int t.2.1, .int t.2.2, .long v_letters])), (h_signs, .inl (cC, 1000, .inl v_signs))] A (none)) args s 0 0 A := ⟨_, rfl⟩
  rw [← hQ]
  show W p l e rm_Text_readNumber s m args below meth c s.heap [] 0 0 Q _
  obtain ⟨H, hH⟩ : ∃ H, H = s.heap := ⟨_, rfl⟩
  obtain ⟨locs, hlocs⟩ : ∃ L : List Loc, L = [] := ⟨_, rfl⟩
  rw [← hlocs] at hS ⊢
  have hS : va_S A s.heap H locs := by rw [hH]; exact hS
  rw [← hH] at hP ⊢
  replace hf := f_Text_readNumber_u hf
  refine lv_aload_n hx hb d_Text_readNumber_0 rfl (lv_at hl 0 rfl) ?_
  obtain ⟨t_1, hg_1, hf⟩ := o_bind hf
  refine x_virt (w' := [(h_this, .inr (5, [.ref h_signs, .int v_size, .int t_1.2.1, .int v_kind, .int t_1.2.2, .long v_letters])), (h_signs, .inl (cC, 1000, .inl v_signs))]) (As := []) (rest := []) hx hb hml hl.1 hown hT hK hN hP hD hS hA (c_Text_readDigits l dC dI cI cL cC h_this h_signs H.size fu v_size v_at v_kind v_amount v_letters v_signs t_1 hg_1) kM_Text_52 kI_Text_readDigits kS_53 kN_Text kC_Text_readDigits hd_Text_readDigits rfl 0 rfl rfl rfl ⟨Nat.le_of_ble_eq_true rfl, Nat.le_of_ble_eq_true rfl⟩ rfl rfl ⟨Nat.zero_le _, Nat.zero_le _⟩ rfl (Nat.le_of_ble_eq_true rfl) d_Text_readNumber_1 [0, 1] rfl rfl [.inr 0, .inr 1] rfl rfl rfl (fun H locs hP hD hS => ?_)
  refine lv_istore_n (lv' := [(1, .int t_1.1), (0, .ref h_this)]) hx hb d_Text_readNumber_4 rfl hl (by decide) rfl (fun ls hl => ?_)
  refine lv_aload_n hx hb d_Text_readNumber_5 rfl (lv_at hl 1 rfl) ?_
  refine lv_iload_n hx hb d_Text_readNumber_6 rfl (lv_at hl 0 rfl) ?_
  refine lv_bipush (v := 7) hx hb d_Text_readNumber_7 (by decide) ?_
  refine lv_icmp_gt (tgt := 25) hx hb d_Text_readNumber_9 (by decide) (fun c_2 => ?_) (fun c_2 => ?_)
  · replace hf := o_pos c_2 hf
    refine lv_iconst (v := 1) hx hb d_Text_readNumber_25 (by decide) ?_
    refine va_put (D := (dC, dI)) (ci := 5) (v := .int 1) (ty := .int) (C := R_Text) (T := T_Text) (N := 6) hx hb hT i_Text ty_Text ty_Text_ok n_Text hown hK hP hD hS 0 rfl rfl 3 (by decide) (hT _ kF_Text_29) (fun _ h9 => h9) rfl (by decide +kernel) rfl rfl (Nat.le_of_ble_eq_true rfl) d_Text_readNumber_26 (fun H locs hP hD hS => ?_)
    have hP : va_P (dC, dI) vwCl [(h_this, .inr (5, [.ref h_signs, .int v_size, .int t_1.2.1, .int 1, .int t_1.2.2, .long v_letters])), (h_signs, .inl (cC, 1000, .inl v_signs))] H := hP
    have hD : va_D A [(h_this, .inr (5, [.ref h_signs, .int v_size, .int t_1.2.1, .int 1, .int t_1.2.2, .long v_letters])), (h_signs, .inl (cC, 1000, .inl v_signs))] := hD
    rw [hQ, ← Option.some.inj hf]
    exact W.vret hx hb hr (fun t9 ht9 hW9 => ⟨rfl, by rw [ht9]; exact hP, hS.F ht9⟩) hS.2.2 d_Text_readNumber_29
  · replace hf := o_neg c_2 hf
    refine lv_aload_n hx hb d_Text_readNumber_12 rfl (lv_at hl 1 rfl) ?_
    refine va_get (D := (dC, dI)) (ci := 5) (v := .int t_1.2.2) (C := R_Text) (T := T_Text) (N := 6) hx hb hT i_Text hown hK hP 0 rfl rfl 4 (by decide) (hT _ kF_Text_56) (fun _ h9 => h9) rfl d_Text_readNumber_13 ?_
    refine lv_ldc (v := 1000000) hx hb hown (hT _ kK_Text_63) d_Text_readNumber_16 ?_
    refine lv_icmp_gt (tgt := 25) hx hb d_Text_readNumber_18 (by decide) (fun c_3 => ?_) (fun c_3 => ?_)
    · replace hf := o_pos c_3 hf
      refine lv_iconst (v := 1) hx hb d_Text_readNumber_25 (by decide) ?_
      refine va_put (D := (dC, dI)) (ci := 5) (v := .int 1) (ty := .int) (C := R_Text) (T := T_Text) (N := 6) hx hb hT i_Text ty_Text ty_Text_ok n_Text hown hK hP hD hS 0 rfl rfl 3 (by decide) (hT _ kF_Text_29) (fun _ h9 => h9) rfl (by decide +kernel) rfl rfl (Nat.le_of_ble_eq_true rfl) d_Text_readNumber_26 (fun H locs hP hD hS => ?_)
      have hP : va_P (dC, dI) vwCl [(h_this, .inr (5, [.ref h_signs, .int v_size, .int t_1.2.1, .int 1, .int t_1.2.2, .long v_letters])), (h_signs, .inl (cC, 1000, .inl v_signs))] H := hP
      have hD : va_D A [(h_this, .inr (5, [.ref h_signs, .int v_size, .int t_1.2.1, .int 1, .int t_1.2.2, .long v_letters])), (h_signs, .inl (cC, 1000, .inl v_signs))] := hD
      rw [hQ, ← Option.some.inj hf]
      exact W.vret hx hb hr (fun t9 ht9 hW9 => ⟨rfl, by rw [ht9]; exact hP, hS.F ht9⟩) hS.2.2 d_Text_readNumber_29
    · replace hf := o_neg c_3 hf
      refine lv_iconst (v := 3) hx hb d_Text_readNumber_21 (by decide) ?_
      refine lv_goto (tgt := 26) hx hb d_Text_readNumber_22 (by decide) ?_
      refine va_put (D := (dC, dI)) (ci := 5) (v := .int 3) (ty := .int) (C := R_Text) (T := T_Text) (N := 6) hx hb hT i_Text ty_Text ty_Text_ok n_Text hown hK hP hD hS 0 rfl rfl 3 (by decide) (hT _ kF_Text_29) (fun _ h9 => h9) rfl (by decide +kernel) rfl rfl (Nat.le_of_ble_eq_true rfl) d_Text_readNumber_26 (fun H locs hP hD hS => ?_)
      have hP : va_P (dC, dI) vwCl [(h_this, .inr (5, [.ref h_signs, .int v_size, .int t_1.2.1, .int 3, .int t_1.2.2, .long v_letters])), (h_signs, .inl (cC, 1000, .inl v_signs))] H := hP
      have hD : va_D A [(h_this, .inr (5, [.ref h_signs, .int v_size, .int t_1.2.1, .int 3, .int t_1.2.2, .long v_letters])), (h_signs, .inl (cC, 1000, .inl v_signs))] := hD
      rw [hQ, ← Option.some.inj hf]
      exact W.vret hx hb hr (fun t9 ht9 hW9 => ⟨rfl, by rw [ht9]; exact hP, hS.F ht9⟩) hS.2.2 d_Text_readNumber_29
def rm_Text_kindOfSign : Room := { frames := 0, cells := 0, slots := 0, locals := 0 }
set_option maxHeartbeats 4000000 in
set_option maxRecDepth 100000 in
theorem c_Text_kindOfSign (l : Launch) (dC : Nat → ClassId) (dI : Nat → Nat → Nat) (cI cL cC : ClassId) (sz : Nat) (p1 : Int32) (t : Int32) (hf : f_Text_kindOfSign p1 = some t) : Met l y_Text_kindOfSign (Cond.code y_Text_kindOfSign prog_7_method_12_code 1 (some .int) :: xT) rm_Text_kindOfSign (va_Pc [.int p1] (xP (dC, dI) (xTy cI cL cC) [] sz)) (xQ (dC, dI) [] (va_A [] sz) (some (.int t))) 0 0 (va_A [] sz) := by
  refine Met.ofW (cc := prog_7_method_12_code) (maxL := 1) (ret := (some .int)) (by decide) rfl ?_
  intro p e s m args below meth c s₁ B hml hv
  obtain ⟨hargs, hsz, hP, hK, hN, hD0⟩ := hv
  have hx := B.exec
  have hb := B.bytes
  have hr := B.returns
  have hT : ∀ w ∈ xT, w.before args s = true := fun w hw => atoms_spec (ws := Cond.code y_Text_kindOfSign prog_7_method_12_code 1 (some .int) :: xT) B.pre w (List.mem_cons_of_mem _ hw)
  have hown : s.vm.findClass R_Text = some m.cls := findClass_of_methodNamed B.named
  have hlocks := B.notSynchronized
  subst hsz
  have hD := hD0.self (sz := s.heap.size)
  generalize hAe : va_A [] s.heap.size = A at hD ⊢
  have hA : ∀ q : Nat, s.heap.size ≤ q → A q := fun q h => by rw [← hAe]; exact Or.inr h
  have hS : va_S A s.heap s.heap [] := va_S.rf
  have hP : va_P (dC, dI) vwCl [] s.heap := hP
  have hl := lv_entry ([.int p1]) (n := 1) (Nat.le_of_ble_eq_true rfl)
  rw [show entryFrame m args 1 = entryFrame m ([.int p1] : List Value).toArray 1 from by rw [hargs], lg_entry_eq]
  generalize (lg_sl ([.int p1]) ++ List.replicate (1 - (lg_sl ([.int p1])).length) Slot.unset).toArray = ls at hl ⊢
  have hl : lv_has ls 1 [(0, .int p1)] := hl
  obtain ⟨Q, hQ⟩ : ∃ Q, Q = MQ below (xQ (dC, dI) [] A (some (.int t))) args s 0 0 A := ⟨_, rfl⟩
  rw [← hQ]
  show W p l e rm_Text_kindOfSign s m args below meth c s.heap [] 0 0 Q _
  obtain ⟨H, hH⟩ : ∃ H, H = s.heap := ⟨_, rfl⟩
  obtain ⟨locs, hlocs⟩ : ∃ L : List Loc, L = [] := ⟨_, rfl⟩
  rw [← hlocs] at hS ⊢
  have hS : va_S A s.heap H locs := by rw [hH]; exact hS
  rw [← hH] at hP ⊢
  replace hf := f_Text_kindOfSign_u hf
  refine lv_iload_n hx hb d_Text_kindOfSign_0 rfl (lv_at hl 0 rfl) ?_
  rcases Decidable.em (p1 = (38 : Int32)) with c_1 | c_1
  · replace hf := o_pos c_1 hf
    refine x_tabIn (tgt := 118) hx hb d_Text_kindOfSign_1 c_1 (by decide) (by decide) rfl (by decide) ?_
    refine lv_bipush (v := 6) hx hb d_Text_kindOfSign_118 (by decide) ?_
    rw [hQ, ← Option.some.inj hf]
    exact W.iret hx hb hr (fun t9 ht9 hW9 => ⟨rfl, by rw [ht9]; exact hP, hS.F ht9⟩) hS.2.2 d_Text_kindOfSign_120
  replace hf := o_neg c_1 hf
  rcases Decidable.em (p1 = (39 : Int32)) with c_2 | c_2
  · replace hf := o_pos c_2 hf
    refine x_tabIn (tgt := 136) hx hb d_Text_kindOfSign_1 c_2 (by decide) (by decide) rfl (by decide) ?_
    refine lv_iconst (v := 1) hx hb d_Text_kindOfSign_136 (by decide) ?_
    rw [hQ, ← Option.some.inj hf]
    exact W.iret hx hb hr (fun t9 ht9 hW9 => ⟨rfl, by rw [ht9]; exact hP, hS.F ht9⟩) hS.2.2 d_Text_kindOfSign_137
  replace hf := o_neg c_2 hf
  rcases Decidable.em (p1 = (40 : Int32)) with c_3 | c_3
  · replace hf := o_pos c_3 hf
    refine x_tabIn (tgt := 136) hx hb d_Text_kindOfSign_1 c_3 (by decide) (by decide) rfl (by decide) ?_
    refine lv_iconst (v := 1) hx hb d_Text_kindOfSign_136 (by decide) ?_
    rw [hQ, ← Option.some.inj hf]
    exact W.iret hx hb hr (fun t9 ht9 hW9 => ⟨rfl, by rw [ht9]; exact hP, hS.F ht9⟩) hS.2.2 d_Text_kindOfSign_137
  replace hf := o_neg c_3 hf
  rcases Decidable.em (p1 = (41 : Int32)) with c_4 | c_4
  · replace hf := o_pos c_4 hf
    refine x_tabIn (tgt := 136) hx hb d_Text_kindOfSign_1 c_4 (by decide) (by decide) rfl (by decide) ?_
    refine lv_iconst (v := 1) hx hb d_Text_kindOfSign_136 (by decide) ?_
    rw [hQ, ← Option.some.inj hf]
    exact W.iret hx hb hr (fun t9 ht9 hW9 => ⟨rfl, by rw [ht9]; exact hP, hS.F ht9⟩) hS.2.2 d_Text_kindOfSign_137
  replace hf := o_neg c_4 hf
  rcases Decidable.em (p1 = (42 : Int32)) with c_5 | c_5
  · replace hf := o_pos c_5 hf
    refine x_tabIn (tgt := 136) hx hb d_Text_kindOfSign_1 c_5 (by decide) (by decide) rfl (by decide) ?_
    refine lv_iconst (v := 1) hx hb d_Text_kindOfSign_136 (by decide) ?_
    rw [hQ, ← Option.some.inj hf]
    exact W.iret hx hb hr (fun t9 ht9 hW9 => ⟨rfl, by rw [ht9]; exact hP, hS.F ht9⟩) hS.2.2 d_Text_kindOfSign_137
  replace hf := o_neg c_5 hf
  rcases Decidable.em (p1 = (43 : Int32)) with c_6 | c_6
  · replace hf := o_pos c_6 hf
    refine x_tabIn (tgt := 136) hx hb d_Text_kindOfSign_1 c_6 (by decide) (by decide) rfl (by decide) ?_
    refine lv_iconst (v := 1) hx hb d_Text_kindOfSign_136 (by decide) ?_
    rw [hQ, ← Option.some.inj hf]
    exact W.iret hx hb hr (fun t9 ht9 hW9 => ⟨rfl, by rw [ht9]; exact hP, hS.F ht9⟩) hS.2.2 d_Text_kindOfSign_137
  replace hf := o_neg c_6 hf
  rcases Decidable.em (p1 = (44 : Int32)) with c_7 | c_7
  · replace hf := o_pos c_7 hf
    refine x_tabIn (tgt := 136) hx hb d_Text_kindOfSign_1 c_7 (by decide) (by decide) rfl (by decide) ?_
    refine lv_iconst (v := 1) hx hb d_Text_kindOfSign_136 (by decide) ?_
    rw [hQ, ← Option.some.inj hf]
    exact W.iret hx hb hr (fun t9 ht9 hW9 => ⟨rfl, by rw [ht9]; exact hP, hS.F ht9⟩) hS.2.2 d_Text_kindOfSign_137
  replace hf := o_neg c_7 hf
  rcases Decidable.em (p1 = (45 : Int32)) with c_8 | c_8
  · replace hf := o_pos c_8 hf
    refine x_tabIn (tgt := 124) hx hb d_Text_kindOfSign_1 c_8 (by decide) (by decide) rfl (by decide) ?_
    refine lv_bipush (v := 8) hx hb d_Text_kindOfSign_124 (by decide) ?_
    rw [hQ, ← Option.some.inj hf]
    exact W.iret hx hb hr (fun t9 ht9 hW9 => ⟨rfl, by rw [ht9]; exact hP, hS.F ht9⟩) hS.2.2 d_Text_kindOfSign_126
  replace hf := o_neg c_8 hf
  rcases Decidable.em (p1 = (46 : Int32)) with c_9 | c_9
  · replace hf := o_pos c_9 hf
    refine x_tabIn (tgt := 136) hx hb d_Text_kindOfSign_1 c_9 (by decide) (by decide) rfl (by decide) ?_
    refine lv_iconst (v := 1) hx hb d_Text_kindOfSign_136 (by decide) ?_
    rw [hQ, ← Option.some.inj hf]
    exact W.iret hx hb hr (fun t9 ht9 hW9 => ⟨rfl, by rw [ht9]; exact hP, hS.F ht9⟩) hS.2.2 d_Text_kindOfSign_137
  replace hf := o_neg c_9 hf
  rcases Decidable.em (p1 = (47 : Int32)) with c_10 | c_10
  · replace hf := o_pos c_10 hf
    refine x_tabIn (tgt := 136) hx hb d_Text_kindOfSign_1 c_10 (by decide) (by decide) rfl (by decide) ?_
    refine lv_iconst (v := 1) hx hb d_Text_kindOfSign_136 (by decide) ?_
    rw [hQ, ← Option.some.inj hf]
    exact W.iret hx hb hr (fun t9 ht9 hW9 => ⟨rfl, by rw [ht9]; exact hP, hS.F ht9⟩) hS.2.2 d_Text_kindOfSign_137
  replace hf := o_neg c_10 hf
  rcases Decidable.em (p1 = (48 : Int32)) with c_11 | c_11
  · replace hf := o_pos c_11 hf
    refine x_tabIn (tgt := 136) hx hb d_Text_kindOfSign_1 c_11 (by decide) (by decide) rfl (by decide) ?_
    refine lv_iconst (v := 1) hx hb d_Text_kindOfSign_136 (by decide) ?_
    rw [hQ, ← Option.some.inj hf]
    exact W.iret hx hb hr (fun t9 ht9 hW9 => ⟨rfl, by rw [ht9]; exact hP, hS.F ht9⟩) hS.2.2 d_Text_kindOfSign_137
  replace hf := o_neg c_11 hf
  rcases Decidable.em (p1 = (49 : Int32)) with c_12 | c_12
  · replace hf := o_pos c_12 hf
    refine x_tabIn (tgt := 136) hx hb d_Text_kindOfSign_1 c_12 (by decide) (by decide) rfl (by decide) ?_
    refine lv_iconst (v := 1) hx hb d_Text_kindOfSign_136 (by decide) ?_
    rw [hQ, ← Option.some.inj hf]
    exact W.iret hx hb hr (fun t9 ht9 hW9 => ⟨rfl, by rw [ht9]; exact hP, hS.F ht9⟩) hS.2.2 d_Text_kindOfSign_137
  replace hf := o_neg c_12 hf
  rcases Decidable.em (p1 = (50 : Int32)) with c_13 | c_13
  · replace hf := o_pos c_13 hf
    refine x_tabIn (tgt := 136) hx hb d_Text_kindOfSign_1 c_13 (by decide) (by decide) rfl (by decide) ?_
    refine lv_iconst (v := 1) hx hb d_Text_kindOfSign_136 (by decide) ?_
    rw [hQ, ← Option.some.inj hf]
    exact W.iret hx hb hr (fun t9 ht9 hW9 => ⟨rfl, by rw [ht9]; exact hP, hS.F ht9⟩) hS.2.2 d_Text_kindOfSign_137
  replace hf := o_neg c_13 hf
  rcases Decidable.em (p1 = (51 : Int32)) with c_14 | c_14
  · replace hf := o_pos c_14 hf
    refine x_tabIn (tgt := 136) hx hb d_Text_kindOfSign_1 c_14 (by decide) (by decide) rfl (by decide) ?_
    refine lv_iconst (v := 1) hx hb d_Text_kindOfSign_136 (by decide) ?_
    rw [hQ, ← Option.some.inj hf]
    exact W.iret hx hb hr (fun t9 ht9 hW9 => ⟨rfl, by rw [ht9]; exact hP, hS.F ht9⟩) hS.2.2 d_Text_kindOfSign_137
  replace hf := o_neg c_14 hf
  rcases Decidable.em (p1 = (52 : Int32)) with c_15 | c_15
  · replace hf := o_pos c_15 hf
    refine x_tabIn (tgt := 136) hx hb d_Text_kindOfSign_1 c_15 (by decide) (by decide) rfl (by decide) ?_
    refine lv_iconst (v := 1) hx hb d_Text_kindOfSign_136 (by decide) ?_
    rw [hQ, ← Option.some.inj hf]
    exact W.iret hx hb hr (fun t9 ht9 hW9 => ⟨rfl, by rw [ht9]; exact hP, hS.F ht9⟩) hS.2.2 d_Text_kindOfSign_137
  replace hf := o_neg c_15 hf
  rcases Decidable.em (p1 = (53 : Int32)) with c_16 | c_16
  · replace hf := o_pos c_16 hf
    refine x_tabIn (tgt := 136) hx hb d_Text_kindOfSign_1 c_16 (by decide) (by decide) rfl (by decide) ?_
    refine lv_iconst (v := 1) hx hb d_Text_kindOfSign_136 (by decide) ?_
    rw [hQ, ← Option.some.inj hf]
    exact W.iret hx hb hr (fun t9 ht9 hW9 => ⟨rfl, by rw [ht9]; exact hP, hS.F ht9⟩) hS.2.2 d_Text_kindOfSign_137
  replace hf := o_neg c_16 hf
  rcases Decidable.em (p1 = (54 : Int32)) with c_17 | c_17
  · replace hf := o_pos c_17 hf
    refine x_tabIn (tgt := 136) hx hb d_Text_kindOfSign_1 c_17 (by decide) (by decide) rfl (by decide) ?_
    refine lv_iconst (v := 1) hx hb d_Text_kindOfSign_136 (by decide) ?_
    rw [hQ, ← Option.some.inj hf]
    exact W.iret hx hb hr (fun t9 ht9 hW9 => ⟨rfl, by rw [ht9]; exact hP, hS.F ht9⟩) hS.2.2 d_Text_kindOfSign_137
  replace hf := o_neg c_17 hf
  rcases Decidable.em (p1 = (55 : Int32)) with c_18 | c_18
  · replace hf := o_pos c_18 hf
    refine x_tabIn (tgt := 136) hx hb d_Text_kindOfSign_1 c_18 (by decide) (by decide) rfl (by decide) ?_
    refine lv_iconst (v := 1) hx hb d_Text_kindOfSign_136 (by decide) ?_
    rw [hQ, ← Option.some.inj hf]
    exact W.iret hx hb hr (fun t9 ht9 hW9 => ⟨rfl, by rw [ht9]; exact hP, hS.F ht9⟩) hS.2.2 d_Text_kindOfSign_137
  replace hf := o_neg c_18 hf
  rcases Decidable.em (p1 = (56 : Int32)) with c_19 | c_19
  · replace hf := o_pos c_19 hf
    refine x_tabIn (tgt := 136) hx hb d_Text_kindOfSign_1 c_19 (by decide) (by decide) rfl (by decide) ?_
    refine lv_iconst (v := 1) hx hb d_Text_kindOfSign_136 (by decide) ?_
    rw [hQ, ← Option.some.inj hf]
    exact W.iret hx hb hr (fun t9 ht9 hW9 => ⟨rfl, by rw [ht9]; exact hP, hS.F ht9⟩) hS.2.2 d_Text_kindOfSign_137
  replace hf := o_neg c_19 hf
  rcases Decidable.em (p1 = (57 : Int32)) with c_20 | c_20
  · replace hf := o_pos c_20 hf
    refine x_tabIn (tgt := 136) hx hb d_Text_kindOfSign_1 c_20 (by decide) (by decide) rfl (by decide) ?_
    refine lv_iconst (v := 1) hx hb d_Text_kindOfSign_136 (by decide) ?_
    rw [hQ, ← Option.some.inj hf]
    exact W.iret hx hb hr (fun t9 ht9 hW9 => ⟨rfl, by rw [ht9]; exact hP, hS.F ht9⟩) hS.2.2 d_Text_kindOfSign_137
  replace hf := o_neg c_20 hf
  rcases Decidable.em (p1 = (58 : Int32)) with c_21 | c_21
  · replace hf := o_pos c_21 hf
    refine x_tabIn (tgt := 116) hx hb d_Text_kindOfSign_1 c_21 (by decide) (by decide) rfl (by decide) ?_
    refine lv_iconst (v := 5) hx hb d_Text_kindOfSign_116 (by decide) ?_
    rw [hQ, ← Option.some.inj hf]
    exact W.iret hx hb hr (fun t9 ht9 hW9 => ⟨rfl, by rw [ht9]; exact hP, hS.F ht9⟩) hS.2.2 d_Text_kindOfSign_117
  replace hf := o_neg c_21 hf
  rcases Decidable.em (p1 = (59 : Int32)) with c_22 | c_22
  · replace hf := o_pos c_22 hf
    refine x_tabIn (tgt := 121) hx hb d_Text_kindOfSign_1 c_22 (by decide) (by decide) rfl (by decide) ?_
    refine lv_bipush (v := 7) hx hb d_Text_kindOfSign_121 (by decide) ?_
    rw [hQ, ← Option.some.inj hf]
    exact W.iret hx hb hr (fun t9 ht9 hW9 => ⟨rfl, by rw [ht9]; exact hP, hS.F ht9⟩) hS.2.2 d_Text_kindOfSign_123
  replace hf := o_neg c_22 hf
  rcases Decidable.em (p1 = (60 : Int32)) with c_23 | c_23
  · replace hf := o_pos c_23 hf
    refine x_tabIn (tgt := 127) hx hb d_Text_kindOfSign_1 c_23 (by decide) (by decide) rfl (by decide) ?_
    refine lv_bipush (v := 11) hx hb d_Text_kindOfSign_127 (by decide) ?_
    rw [hQ, ← Option.some.inj hf]
    exact W.iret hx hb hr (fun t9 ht9 hW9 => ⟨rfl, by rw [ht9]; exact hP, hS.F ht9⟩) hS.2.2 d_Text_kindOfSign_129
  replace hf := o_neg c_23 hf
  rcases Decidable.em (p1 = (61 : Int32)) with c_24 | c_24
  · replace hf := o_pos c_24 hf
    refine x_tabIn (tgt := 130) hx hb d_Text_kindOfSign_1 c_24 (by decide) (by decide) rfl (by decide) ?_
    refine lv_bipush (v := 13) hx hb d_Text_kindOfSign_130 (by decide) ?_
    rw [hQ, ← Option.some.inj hf]
    exact W.iret hx hb hr (fun t9 ht9 hW9 => ⟨rfl, by rw [ht9]; exact hP, hS.F ht9⟩) hS.2.2 d_Text_kindOfSign_132
  replace hf := o_neg c_24 hf
  rcases Decidable.em (p1 = (62 : Int32)) with c_25 | c_25
  · replace hf := o_pos c_25 hf
    refine x_tabIn (tgt := 133) hx hb d_Text_kindOfSign_1 c_25 (by decide) (by decide) rfl (by decide) ?_
    refine lv_bipush (v := 15) hx hb d_Text_kindOfSign_133 (by decide) ?_
    rw [hQ, ← Option.some.inj hf]
    exact W.iret hx hb hr (fun t9 ht9 hW9 => ⟨rfl, by rw [ht9]; exact hP, hS.F ht9⟩) hS.2.2 d_Text_kindOfSign_135
  replace hf := o_neg c_25 hf
  refine lv_tableOut (tgt := 136) hx hb d_Text_kindOfSign_1 (by have q_1 : ¬ (38 : Int) = (p1 : Int32).toInt := x_ne c_1; have q_2 : ¬ (39 : Int) = (p1 : Int32).toInt := x_ne c_2; have q_3 : ¬ (40 : Int) = (p1 : Int32).toInt := x_ne c_3; have q_4 : ¬ (41 : Int) = (p1 : Int32).toInt := x_ne c_4; have q_5 : ¬ (42 : Int) = (p1 : Int32).toInt := x_ne c_5; have q_6 : ¬ (43 : Int) = (p1 : Int32).toInt := x_ne c_6; have q_7 : ¬ (44 : Int) = (p1 : Int32).toInt := x_ne c_7; have q_8 : ¬ (45 : Int) = (p1 : Int32).toInt := x_ne c_8; have q_9 : ¬ (46 : Int) = (p1 : Int32).toInt := x_ne c_9; have q_10 : ¬ (47 : Int) = (p1 : Int32).toInt := x_ne c_10; have q_11 : ¬ (48 : Int) = (p1 : Int32).toInt := x_ne c_11; have q_12 : ¬ (49 : Int) = (p1 : Int32).toInt := x_ne c_12; have q_13 : ¬ (50 : Int) = (p1 : Int32).toInt := x_ne c_13; have q_14 : ¬ (51 : Int) = (p1 : Int32).toInt := x_ne c_14; have q_15 : ¬ (52 : Int) = (p1 : Int32).toInt := x_ne c_15; have q_16 : ¬ (53 : Int) = (p1 : Int32).toInt := x_ne c_16; have q_17 : ¬ (54 : Int) = (p1 : Int32).toInt := x_ne c_17; have q_18 : ¬ (55 : Int) = (p1 : Int32).toInt := x_ne c_18; have q_19 : ¬ (56 : Int) = (p1 : Int32).toInt := x_ne c_19; have q_20 : ¬ (57 : Int) = (p1 : Int32).toInt := x_ne c_20; have q_21 : ¬ (58 : Int) = (p1 : Int32).toInt := x_ne c_21; have q_22 : ¬ (59 : Int) = (p1 : Int32).toInt := x_ne c_22; have q_23 : ¬ (60 : Int) = (p1 : Int32).toInt := x_ne c_23; have q_24 : ¬ (61 : Int) = (p1 : Int32).toInt := x_ne c_24; have q_25 : ¬ (62 : Int) = (p1 : Int32).toInt := x_ne c_25; omega) (by decide) ?_
  refine lv_iconst (v := 1) hx hb d_Text_kindOfSign_136 (by decide) ?_
  rw [hQ, ← Option.some.inj hf]
  exact W.iret hx hb hr (fun t9 ht9 hW9 => ⟨rfl, by rw [ht9]; exact hP, hS.F ht9⟩) hS.2.2 d_Text_kindOfSign_137
def rm_Text_readSign : Room := { frames := 1, cells := 0, slots := 0, locals := 21 }
set_option maxHeartbeats 4000000 in
set_option maxRecDepth 100000 in
theorem c_Text_readSign (l : Launch) (dC : Nat → ClassId) (dI : Nat → Nat → Nat) (cI cL cC : ClassId) (h_this h_signs : Nat) (sz : Nat) (v_size : Int32) (v_at : Int32) (v_kind : Int32) (v_amount : Int32) (v_letters : Int64) (v_signs : Nat → Int32) (p1 : Int32) (t : Int32 × Int32) (hf : f_Text_readSign v_size v_at v_kind v_signs p1 = some t) : Met l y_Text_readSign (Cond.code y_Text_readSign prog_7_method_10_code 3 none :: xT) rm_Text_readSign (va_Pc [.ref h_this, .int p1] (xP (dC, dI) (xTy cI cL cC) [(h_this, .inr (5, [.ref h_signs, .int v_size, .int v_at, .int v_kind, .int v_amount, .long v_letters])), (h_signs, .inl (cC, 1000, .inl v_signs))] sz)) (xQ (dC, dI) [(h_this, .inr (5, [.ref h_signs, .int v_size, .int t.1, .int t.2, .int v_amount, .long v_letters])), (h_signs, .inl (cC, 1000, .inl v_signs))] (va_A [(h_this, .inr (5, [.ref h_signs, .int v_size, .int v_at, .int v_kind, .int v_amount, .long v_letters])), (h_signs, .inl (cC, 1000, .inl v_signs))] sz) (none)) 0 0 (va_A [(h_this, .inr (5, [.ref h_signs, .int v_size, .int v_at, .int v_kind, .int v_amount, .long v_letters])), (h_signs, .inl (cC, 1000, .inl v_signs))] sz) := by
  refine Met.ofW (cc := prog_7_method_10_code) (maxL := 3) (ret := none) (by decide) rfl ?_
  intro p e s m args below meth c s₁ B hml hv
  obtain ⟨hargs, hsz, hP, hK, hN, hD0⟩ := hv
  have hx := B.exec
  have hb := B.bytes
  have hr := B.returns
  have hT : ∀ w ∈ xT, w.before args s = true := fun w hw => atoms_spec (ws := Cond.code y_Text_readSign prog_7_method_10_code 3 none :: xT) B.pre w (List.mem_cons_of_mem _ hw)
  have hown : s.vm.findClass R_Text = some m.cls := findClass_of_methodNamed B.named
  have hlocks := B.notSynchronized
  subst hsz
  have hD := hD0.self (sz := s.heap.size)
  generalize hAe : va_A [(h_this, .inr (5, [.ref h_signs, .int v_size, .int v_at, .int v_kind, .int v_amount, .long v_letters])), (h_signs, .inl (cC, 1000, .inl v_signs))] s.heap.size = A at hD ⊢
  have hA : ∀ q : Nat, s.heap.size ≤ q → A q := fun q h => by rw [← hAe]; exact Or.inr h
  have hS : va_S A s.heap s.heap [] := va_S.rf
  have hP : va_P (dC, dI) vwCl [(h_this, .inr (5, [.ref h_signs, .int v_size, .int v_at, .int v_kind, .int v_amount, .long v_letters])), (h_signs, .inl (cC, 1000, .inl v_signs))] s.heap := hP
  have hl := lv_entry ([.ref h_this, .int p1]) (n := 3) (Nat.le_of_ble_eq_true rfl)
  rw [show entryFrame m args 3 = entryFrame m ([.ref h_this, .int p1] : List Value).toArray 3 from by rw [hargs], lg_entry_eq]
  generalize (lg_sl ([.ref h_this, .int p1]) ++ List.replicate (3 - (lg_sl ([.ref h_this, .int p1])).length) Slot.unset).toArray = ls at hl ⊢
  have hl : lv_has ls 3 [(0, .ref h_this), (1, .int p1)] := hl
  obtain ⟨Q, hQ⟩ : ∃ Q, Q = MQ below (xQ (dC, dI) [(h_this, .inr (5, [.ref h_signs, .int v_size, .int t.1, .int t.2, .int v_amount, .long v_letters])), (h_signs, .inl (cC, 1000, .inl v_signs))] A (none)) args s 0 0 A := ⟨_, rfl⟩
  rw [← hQ]
  show W p l e rm_Text_readSign s m args below meth c s.heap [] 0 0 Q _
  obtain ⟨H, hH⟩ : ∃ H, H = s.heap := ⟨_, rfl⟩
  obtain ⟨locs, hlocs⟩ : ∃ L : List Loc, L = [] := ⟨_, rfl⟩
  rw [← hlocs] at hS ⊢
  have hS : va_S A s.heap H locs := by rw [hH]; exact hS
  rw [← hH] at hP ⊢
  replace hf := f_Text_readSign_u hf
  refine lv_aload_n hx hb d_Text_readSign_0 rfl (lv_at hl 0 rfl) ?_
  refine lv_dup hx hb d_Text_readSign_1 rfl ?_
  refine va_get (D := (dC, dI)) (ci := 5) (v := .int v_at) (C := R_Text) (T := T_Text) (N := 6) hx hb hT i_Text hown hK hP 0 rfl rfl 2 (by decide) (hT _ kF_Text_19) (fun _ h9 => h9) rfl d_Text_readSign_2 ?_
  refine lv_iconst (v := 1) hx hb d_Text_readSign_5 (by decide) ?_
  refine lv_iadd hx hb d_Text_readSign_6 ?_
  refine va_put (D := (dC, dI)) (ci := 5) (v := .int (v_at + 1)) (ty := .int) (C := R_Text) (T := T_Text) (N := 6) hx hb hT i_Text ty_Text ty_Text_ok n_Text hown hK hP hD hS 0 rfl rfl 2 (by decide) (hT _ kF_Text_19) (fun _ h9 => h9) rfl (by decide +kernel) rfl rfl (Nat.le_of_ble_eq_true rfl) d_Text_readSign_7 (fun H locs hP hD hS => ?_)
  have hP : va_P (dC, dI) vwCl [(h_this, .inr (5, [.ref h_signs, .int v_size, .int (v_at + 1), .int v_kind, .int v_amount, .long v_letters])), (h_signs, .inl (cC, 1000, .inl v_signs))] H := hP
  have hD : va_D A [(h_this, .inr (5, [.ref h_signs, .int v_size, .int (v_at + 1), .int v_kind, .int v_amount, .long v_letters])), (h_signs, .inl (cC, 1000, .inl v_signs))] := hD
  refine lv_aload_n hx hb d_Text_readSign_10 rfl (lv_at hl 0 rfl) ?_
  refine lv_aload_n hx hb d_Text_readSign_11 rfl (lv_at hl 0 rfl) ?_
  refine va_get (D := (dC, dI)) (ci := 5) (v := .int (v_at + 1)) (C := R_Text) (T := T_Text) (N := 6) hx hb hT i_Text hown hK hP 0 rfl rfl 2 (by decide) (hT _ kF_Text_19) (fun _ h9 => h9) rfl d_Text_readSign_12 ?_
  obtain ⟨t_1, hg_1, hf⟩ := o_bind hf
  refine x_virt (w' := [(h_this, .inr (5, [.ref h_signs, .int v_size, .int (v_at + 1), .int v_kind, .int v_amount, .long v_letters])), (h_signs, .inl (cC, 1000, .inl v_signs))]) (As := [.int (v_at + 1)]) (rest := []) hx hb hml hl.1 hown hT hK hN hP hD hS hA (c_Text_signAt l dC dI cI cL cC h_this h_signs H.size v_size (v_at + 1) v_kind v_amount v_letters v_signs (v_at + 1) t_1 hg_1) kM_Text_25 kI_Text_signAt kS_74 kN_Text kC_Text_signAt hd_Text_signAt rfl 0 rfl rfl rfl ⟨Nat.le_of_ble_eq_true rfl, Nat.le_of_ble_eq_true rfl⟩ rfl rfl ⟨Nat.zero_le _, Nat.zero_le _⟩ rfl (Nat.le_of_ble_eq_true rfl) d_Text_readSign_15 [0, 1] rfl rfl [.inr 0, .inr 1] rfl rfl rfl (fun H locs hP hD hS => ?_)
  refine lv_bipush (v := 61) hx hb d_Text_readSign_18 (by decide) ?_
  have jn_28 : ∀ (s0_j28 : Int32) (H : Heap) (locs : List Loc) (ls : Array Slot), J_Text_readSign_28 (v_at + 1) v_kind p1 s0_j28 = some t → va_P (dC, dI) vwCl [(h_this, .inr (5, [.ref h_signs, .int v_size, .int (v_at + 1), .int v_kind, .int v_amount, .long v_letters])), (h_signs, .inl (cC, 1000, .inl v_signs))] H → va_D A [(h_this, .inr (5, [.ref h_signs, .int v_size, .int (v_at + 1), .int v_kind, .int v_amount, .long v_letters])), (h_signs, .inl (cC, 1000, .inl v_signs))] → va_S A s.heap H locs → lv_has ls 3 [(0, .ref h_this), (1, .int p1)] → W p l e rm_Text_readSign s m args below meth c H locs 0 0 Q (F0 m 28 ls [.int s0_j28]) := by
    intro s0_j28 H locs ls hf hP hD hS hl
    replace hf := J_Text_readSign_28_u hf
    refine lv_istore_n (lv' := [(2, .int s0_j28), (0, .ref h_this), (1, .int p1)]) hx hb d_Text_readSign_28 rfl hl (by decide) rfl (fun ls hl => ?_)
    refine lv_iload_n hx hb d_Text_readSign_29 rfl (lv_at hl 0 rfl) ?_
    refine lv_if_eq (tgt := 75) hx hb d_Text_readSign_30 (by decide) (fun c_2 => ?_) (fun c_2 => ?_)
    · replace hf := o_pos c_2 hf
      refine lv_aload_n hx hb d_Text_readSign_75 rfl (lv_at hl 1 rfl) ?_
      refine lv_iload_n hx hb d_Text_readSign_76 rfl (lv_at hl 2 rfl) ?_
      obtain ⟨t_3, hg_3, hf⟩ := o_bind hf
      refine x_stat (w' := [(h_this, .inr (5, [.ref h_signs, .int v_size, .int (v_at + 1), .int v_kind, .int v_amount, .long v_letters])), (h_signs, .inl (cC, 1000, .inl v_signs))]) (As := [.int p1]) (rest := [.ref h_this]) hx hb hml hl.1 hown hT hK hN hP hD hS hA (c_Text_kindOfSign l dC dI cI cL cC H.size p1 t_3 hg_3) kM_Text_72 kT_Text_kindOfSign kN_Text kC_Text_kindOfSign hd_Text_kindOfSign rfl ⟨Nat.le_of_ble_eq_true rfl, Nat.le_of_ble_eq_true rfl⟩ rfl rfl ⟨Nat.zero_le _, Nat.zero_le _⟩ rfl (Nat.le_of_ble_eq_true rfl) d_Text_readSign_77 [] rfl rfl [.inl 0, .inl 1] rfl rfl rfl (fun H locs hP hD hS => ?_)
      refine va_put (D := (dC, dI)) (ci := 5) (v := .int t_3) (ty := .int) (C := R_Text) (T := T_Text) (N := 6) hx hb hT i_Text ty_Text ty_Text_ok n_Text hown hK hP hD hS 0 rfl rfl 3 (by decide) (hT _ kF_Text_29) (fun _ h9 => h9) rfl (by decide +kernel) rfl rfl (Nat.le_of_ble_eq_true rfl) d_Text_readSign_80 (fun H locs hP hD hS => ?_)
      have hP : va_P (dC, dI) vwCl [(h_this, .inr (5, [.ref h_signs, .int v_size, .int (v_at + 1), .int t_3, .int v_amount, .long v_letters])), (h_signs, .inl (cC, 1000, .inl v_signs))] H := hP
      have hD : va_D A [(h_this, .inr (5, [.ref h_signs, .int v_size, .int (v_at + 1), .int t_3, .int v_amount, .long v_letters])), (h_signs, .inl (cC, 1000, .inl v_signs))] := hD
      rw [hQ, ← Option.some.inj hf]
      exact W.vret hx hb hr (fun t9 ht9 hW9 => ⟨rfl, by rw [ht9]; exact hP, hS.F ht9⟩) hS.2.2 d_Text_readSign_83
    · replace hf := o_neg c_2 hf
      refine lv_iload_n hx hb d_Text_readSign_33 rfl (lv_at hl 2 rfl) ?_
      refine lv_bipush (v := 60) hx hb d_Text_readSign_34 (by decide) ?_
      refine lv_icmp_eq (tgt := 45) hx hb d_Text_readSign_36 (by decide) (fun c_4 => ?_) (fun c_4 => ?_)
      · replace hf := o_pos c_4 hf
        refine lv_aload_n hx hb d_Text_readSign_45 rfl (lv_at hl 1 rfl) ?_
        refine lv_dup hx hb d_Text_readSign_46 rfl ?_
        refine va_get (D := (dC, dI)) (ci := 5) (v := .int (v_at + 1)) (C := R_Text) (T := T_Text) (N := 6) hx hb hT i_Text hown hK hP 0 rfl rfl 2 (by decide) (hT _ kF_Text_19) (fun _ h9 => h9) rfl d_Text_readSign_47 ?_
        refine lv_iconst (v := 1) hx hb d_Text_readSign_50 (by decide) ?_
        refine lv_iadd hx hb d_Text_readSign_51 ?_
        refine va_put (D := (dC, dI)) (ci := 5) (v := .int ((v_at + 1) + 1)) (ty := .int) (C := R_Text) (T := T_Text) (N := 6) hx hb hT i_Text ty_Text ty_Text_ok n_Text hown hK hP hD hS 0 rfl rfl 2 (by decide) (hT _ kF_Text_19) (fun _ h9 => h9) rfl (by decide +kernel) rfl rfl (Nat.le_of_ble_eq_true rfl) d_Text_readSign_52 (fun H locs hP hD hS => ?_)
        have hP : va_P (dC, dI) vwCl [(h_this, .inr (5, [.ref h_signs, .int v_size, .int ((v_at + 1) + 1), .int v_kind, .int v_amount, .long v_letters])), (h_signs, .inl (cC, 1000, .inl v_signs))] H := hP
        have hD : va_D A [(h_this, .inr (5, [.ref h_signs, .int v_size, .int ((v_at + 1) + 1), .int v_kind, .int v_amount, .long v_letters])), (h_signs, .inl (cC, 1000, .inl v_signs))] := hD
        refine lv_aload_n hx hb d_Text_readSign_55 rfl (lv_at hl 1 rfl) ?_
        refine lv_iload_n hx hb d_Text_readSign_56 rfl (lv_at hl 2 rfl) ?_
        refine lv_bipush (v := 60) hx hb d_Text_readSign_57 (by decide) ?_
        refine lv_icmp_ne (tgt := 67) hx hb d_Text_readSign_59 (by decide) (fun c_5 => ?_) (fun c_5 => ?_)
        · replace hf := o_neg c_5 hf
          refine lv_bipush (v := 14) hx hb d_Text_readSign_67 (by decide) ?_
          refine va_put (D := (dC, dI)) (ci := 5) (v := .int 14) (ty := .int) (C := R_Text) (T := T_Text) (N := 6) hx hb hT i_Text ty_Text ty_Text_ok n_Text hown hK hP hD hS 0 rfl rfl 3 (by decide) (hT _ kF_Text_29) (fun _ h9 => h9) rfl (by decide +kernel) rfl rfl (Nat.le_of_ble_eq_true rfl) d_Text_readSign_69 (fun H locs hP hD hS => ?_)
          have hP : va_P (dC, dI) vwCl [(h_this, .inr (5, [.ref h_signs, .int v_size, .int ((v_at + 1) + 1), .int 14, .int v_amount, .long v_letters])), (h_signs, .inl (cC, 1000, .inl v_signs))] H := hP
          have hD : va_D A [(h_this, .inr (5, [.ref h_signs, .int v_size, .int ((v_at + 1) + 1), .int 14, .int v_amount, .long v_letters])), (h_signs, .inl (cC, 1000, .inl v_signs))] := hD
          refine lv_goto (tgt := 83) hx hb d_Text_readSign_72 (by decide) ?_
          rw [hQ, ← Option.some.inj hf]
          exact W.vret hx hb hr (fun t9 ht9 hW9 => ⟨rfl, by rw [ht9]; exact hP, hS.F ht9⟩) hS.2.2 d_Text_readSign_83
        · replace hf := o_pos c_5 hf
          refine lv_bipush (v := 12) hx hb d_Text_readSign_62 (by decide) ?_
          refine lv_goto (tgt := 69) hx hb d_Text_readSign_64 (by decide) ?_
          refine va_put (D := (dC, dI)) (ci := 5) (v := .int 12) (ty := .int) (C := R_Text) (T := T_Text) (N := 6) hx hb hT i_Text ty_Text ty_Text_ok n_Text hown hK hP hD hS 0 rfl rfl 3 (by decide) (hT _ kF_Text_29) (fun _ h9 => h9) rfl (by decide +kernel) rfl rfl (Nat.le_of_ble_eq_true rfl) d_Text_readSign_69 (fun H locs hP hD hS => ?_)
          have hP : va_P (dC, dI) vwCl [(h_this, .inr (5, [.ref h_signs, .int v_size, .int ((v_at + 1) + 1), .int 12, .int v_amount, .long v_letters])), (h_signs, .inl (cC, 1000, .inl v_signs))] H := hP
          have hD : va_D A [(h_this, .inr (5, [.ref h_signs, .int v_size, .int ((v_at + 1) + 1), .int 12, .int v_amount, .long v_letters])), (h_signs, .inl (cC, 1000, .inl v_signs))] := hD
          refine lv_goto (tgt := 83) hx hb d_Text_readSign_72 (by decide) ?_
          rw [hQ, ← Option.some.inj hf]
          exact W.vret hx hb hr (fun t9 ht9 hW9 => ⟨rfl, by rw [ht9]; exact hP, hS.F ht9⟩) hS.2.2 d_Text_readSign_83
      · replace hf := o_neg c_4 hf
        refine lv_iload_n hx hb d_Text_readSign_39 rfl (lv_at hl 2 rfl) ?_
        refine lv_bipush (v := 62) hx hb d_Text_readSign_40 (by decide) ?_
        refine lv_icmp_ne (tgt := 75) hx hb d_Text_readSign_42 (by decide) (fun c_6 => ?_) (fun c_6 => ?_)
        · replace hf := o_neg c_6 hf
          refine lv_aload_n hx hb d_Text_readSign_75 rfl (lv_at hl 1 rfl) ?_
          refine lv_iload_n hx hb d_Text_readSign_76 rfl (lv_at hl 2 rfl) ?_
          obtain ⟨t_7, hg_7, hf⟩ := o_bind hf
          refine x_stat (w' := [(h_this, .inr (5, [.ref h_signs, .int v_size, .int (v_at + 1), .int v_kind, .int v_amount, .long v_letters])), (h_signs, .inl (cC, 1000, .inl v_signs))]) (As := [.int p1]) (rest := [.ref h_this]) hx hb hml hl.1 hown hT hK hN hP hD hS hA (c_Text_kindOfSign l dC dI cI cL cC H.size p1 t_7 hg_7) kM_Text_72 kT_Text_kindOfSign kN_Text kC_Text_kindOfSign hd_Text_kindOfSign rfl ⟨Nat.le_of_ble_eq_true rfl, Nat.le_of_ble_eq_true rfl⟩ rfl rfl ⟨Nat.zero_le _, Nat.zero_le _⟩ rfl (Nat.le_of_ble_eq_true rfl) d_Text_readSign_77 [] rfl rfl [.inl 0, .inl 1] rfl rfl rfl (fun H locs hP hD hS => ?_)
          refine va_put (D := (dC, dI)) (ci := 5) (v := .int t_7) (ty := .int) (C := R_Text) (T := T_Text) (N := 6) hx hb hT i_Text ty_Text ty_Text_ok n_Text hown hK hP hD hS 0 rfl rfl 3 (by decide) (hT _ kF_Text_29) (fun _ h9 => h9) rfl (by decide +kernel) rfl rfl (Nat.le_of_ble_eq_true rfl) d_Text_readSign_80 (fun H locs hP hD hS => ?_)
          have hP : va_P (dC, dI) vwCl [(h_this, .inr (5, [.ref h_signs, .int v_size, .int (v_at + 1), .int t_7, .int v_amount, .long v_letters])), (h_signs, .inl (cC, 1000, .inl v_signs))] H := hP
          have hD : va_D A [(h_this, .inr (5, [.ref h_signs, .int v_size, .int (v_at + 1), .int t_7, .int v_amount, .long v_letters])), (h_signs, .inl (cC, 1000, .inl v_signs))] := hD
          rw [hQ, ← Option.some.inj hf]
          exact W.vret hx hb hr (fun t9 ht9 hW9 => ⟨rfl, by rw [ht9]; exact hP, hS.F ht9⟩) hS.2.2 d_Text_readSign_83
        · replace hf := o_pos c_6 hf
          refine lv_aload_n hx hb d_Text_readSign_45 rfl (lv_at hl 1 rfl) ?_
          refine lv_dup hx hb d_Text_readSign_46 rfl ?_
          refine va_get (D := (dC, dI)) (ci := 5) (v := .int (v_at + 1)) (C := R_Text) (T := T_Text) (N := 6) hx hb hT i_Text hown hK hP 0 rfl rfl 2 (by decide) (hT _ kF_Text_19) (fun _ h9 => h9) rfl d_Text_readSign_47 ?_
          refine lv_iconst (v := 1) hx hb d_Text_readSign_50 (by decide) ?_
          refine lv_iadd hx hb d_Text_readSign_51 ?_
          refine va_put (D := (dC, dI)) (ci := 5) (v := .int ((v_at + 1) + 1)) (ty := .int) (C := R_Text) (T := T_Text) (N := 6) hx hb hT i_Text ty_Text ty_Text_ok n_Text hown hK hP hD hS 0 rfl rfl 2 (by decide) (hT _ kF_Text_19) (fun _ h9 => h9) rfl (by decide +kernel) rfl rfl (Nat.le_of_ble_eq_true rfl) d_Text_readSign_52 (fun H locs hP hD hS => ?_)
          have hP : va_P (dC, dI) vwCl [(h_this, .inr (5, [.ref h_signs, .int v_size, .int ((v_at + 1) + 1), .int v_kind, .int v_amount, .long v_letters])), (h_signs, .inl (cC, 1000, .inl v_signs))] H := hP
          have hD : va_D A [(h_this, .inr (5, [.ref h_signs, .int v_size, .int ((v_at + 1) + 1), .int v_kind, .int v_amount, .long v_letters])), (h_signs, .inl (cC, 1000, .inl v_signs))] := hD
          refine lv_aload_n hx hb d_Text_readSign_55 rfl (lv_at hl 1 rfl) ?_
          refine lv_iload_n hx hb d_Text_readSign_56 rfl (lv_at hl 2 rfl) ?_
          refine lv_bipush (v := 60) hx hb d_Text_readSign_57 (by decide) ?_
          refine lv_icmp_ne (tgt := 67) hx hb d_Text_readSign_59 (by decide) (fun c_8 => ?_) (fun c_8 => ?_)
          · replace hf := o_neg c_8 hf
            refine lv_bipush (v := 14) hx hb d_Text_readSign_67 (by decide) ?_
            refine va_put (D := (dC, dI)) (ci := 5) (v := .int 14) (ty := .int) (C := R_Text) (T := T_Text) (N := 6) hx hb hT i_Text ty_Text ty_Text_ok n_Text hown hK hP hD hS 0 rfl rfl 3 (by decide) (hT _ kF_Text_29) (fun _ h9 => h9) rfl (by decide +kernel) rfl rfl (Nat.le_of_ble_eq_true rfl) d_Text_readSign_69 (fun H locs hP hD hS => ?_)
            have hP : va_P (dC, dI) vwCl [(h_this, .inr (5, [.ref h_signs, .int v_size, .int ((v_at + 1) + 1), .int 14, .int v_amount, .long v_letters])), (h_signs, .inl (cC, 1000, .inl v_signs))] H := hP
            have hD : va_D A [(h_this, .inr (5, [.ref h_signs, .int v_size, .int ((v_at + 1) + 1), .int 14, .int v_amount, .long v_letters])), (h_signs, .inl (cC, 1000, .inl v_signs))] := hD
            refine lv_goto (tgt := 83) hx hb d_Text_readSign_72 (by decide) ?_
            rw [hQ, ← Option.some.inj hf]
            exact W.vret hx hb hr (fun t9 ht9 hW9 => ⟨rfl, by rw [ht9]; exact hP, hS.F ht9⟩) hS.2.2 d_Text_readSign_83
          · replace hf := o_pos c_8 hf
            refine lv_bipush (v := 12) hx hb d_Text_readSign_62 (by decide) ?_
            refine lv_goto (tgt := 69) hx hb d_Text_readSign_64 (by decide) ?_
            refine va_put (D := (dC, dI)) (ci := 5) (v := .int 12) (ty := .int) (C := R_Text) (T := T_Text) (N := 6) hx hb hT i_Text ty_Text ty_Text_ok n_Text hown hK hP hD hS 0 rfl rfl 3 (by decide) (hT _ kF_Text_29) (fun _ h9 => h9) rfl (by decide +kernel) rfl rfl (Nat.le_of_ble_eq_true rfl) d_Text_readSign_69 (fun H locs hP hD hS => ?_)
            have hP : va_P (dC, dI) vwCl [(h_this, .inr (5, [.ref h_signs, .int v_size, .int ((v_at + 1) + 1), .int 12, .int v_amount, .long v_letters])), (h_signs, .inl (cC, 1000, .inl v_signs))] H := hP
            have hD : va_D A [(h_this, .inr (5, [.ref h_signs, .int v_size, .int ((v_at + 1) + 1), .int 12, .int v_amount, .long v_letters])), (h_signs, .inl (cC, 1000, .inl v_signs))] := hD
            refine lv_goto (tgt := 83) hx hb d_Text_readSign_72 (by decide) ?_
            rw [hQ, ← Option.some.inj hf]
            exact W.vret hx hb hr (fun t9 ht9 hW9 => ⟨rfl, by rw [ht9]; exact hP, hS.F ht9⟩) hS.2.2 d_Text_readSign_83
  refine lv_icmp_ne (tgt := 27) hx hb d_Text_readSign_20 (by decide) (fun c_9 => ?_) (fun c_9 => ?_)
  · replace hf := o_neg c_9 hf
    refine lv_iconst (v := 0) hx hb d_Text_readSign_27 (by decide) ?_
    exact jn_28 0 H locs ls hf hP hD hS (lv_sub hl [0, 1] rfl)
  · replace hf := o_pos c_9 hf
    refine lv_iconst (v := 1) hx hb d_Text_readSign_23 (by decide) ?_
    refine lv_goto (tgt := 28) hx hb d_Text_readSign_24 (by decide) ?_
    exact jn_28 1 H locs ls hf hP hD hS (lv_sub hl [0, 1] rfl)
def rm_Text_readNext : Room := { frames := 3, cells := 0, slots := 0, locals := 63 }
set_option maxHeartbeats 4000000 in
set_option maxRecDepth 100000 in
theorem c_Text_readNext (l : Launch) (dC : Nat → ClassId) (dI : Nat → Nat → Nat) (cI cL cC : ClassId) (h_this h_signs : Nat) (sz : Nat) (fu : Nat) (v_size : Int32) (v_at : Int32) (v_kind : Int32) (v_amount : Int32) (v_letters : Int64) (v_signs : Nat → Int32) (t : Int32 × Int32 × Int32 × Int64) (hf : f_Text_readNext fu v_size v_at v_kind v_amount v_letters v_signs = some t) : Met l y_Text_readNext (Cond.code y_Text_readNext prog_7_method_4_code 2 none :: xT) rm_Text_readNext (va_Pc [.ref h_this] (xP (dC, dI) (xTy cI cL cC) [(h_this, .inr (5, [.ref h_signs, .int v_size, .int v_at, .int v_kind, .int v_amount, .long v_letters])), (h_signs, .inl (cC, 1000, .inl v_signs))] sz)) (xQ (dC, dI) [(h_this, .inr (5, [.ref h_signs, .int v_size, .int t.1, .int t.2.1, .int t.2.2.1, .long t.2.2.2])), (h_signs, .inl (cC, 1000, .inl v_signs))] (va_A [(h_this, .inr (5, [.ref h_signs, .int v_size, .int v_at, .int v_kind, .int v_amount, .long v_letters])), (h_signs, .inl (cC, 1000, .inl v_signs))] sz) (none)) 0 0 (va_A [(h_this, .inr (5, [.ref h_signs, .int v_size, .int v_at, .int v_kind, .int v_amount, .long v_letters])), (h_signs, .inl (cC, 1000, .inl v_signs))] sz) := by
  refine Met.ofW (cc := prog_7_method_4_code) (maxL := 2) (ret := none) (by decide) rfl ?_
  intro p e s m args below meth c s₁ B hml hv
  obtain ⟨hargs, hsz, hP, hK, hN, hD0⟩ := hv
  have hx := B.exec
  have hb := B.bytes
  have hr := B.returns
  have hT : ∀ w ∈ xT, w.before args s = true := fun w hw => atoms_spec (ws := Cond.code y_Text_readNext prog_7_method_4_code 2 none :: xT) B.pre w (List.mem_cons_of_mem _ hw)
  have hown : s.vm.findClass R_Text = some m.cls := findClass_of_methodNamed B.named
  have hlocks := B.notSynchronized
  subst hsz
  have hD := hD0.self (sz := s.heap.size)
  generalize hAe : va_A [(h_this, .inr (5, [.ref h_signs, .int v_size, .int v_at, .int v_kind, .int v_amount, .long v_letters])), (h_signs, .inl (cC, 1000, .inl v_signs))] s.heap.size = A at hD ⊢
  have hA : ∀ q : Nat, s.heap.size ≤ q → A q := fun q h => by rw [← hAe]; exact Or.inr h
  have hS : va_S A s.heap s.heap [] := va_S.rf
  have hP : va_P (dC, dI) vwCl [(h_this, .inr (5, [.ref h_signs, .int v_size, .int v_at, .int v_kind, .int v_amount, .long v_letters])), (h_signs, .inl (cC, 1000, .inl v_signs))] s.heap := hP
  have hl := lv_entry ([.ref h_this]) (n := 2) (Nat.le_of_ble_eq_true rfl)
  rw [show entryFrame m args 2 = entryFrame m ([.ref h_this] : List Value).toArray 2 from by rw [hargs], lg_entry_eq]
  generalize (lg_sl ([.ref h_this]) ++ List.replicate (2 - (lg_sl ([.ref h_this])).length) Slot.unset).toArray = ls at hl ⊢
  have hl : lv_has ls 2 [(0, .ref h_this)] := hl
  obtain ⟨Q, hQ⟩ : ∃ Q, Q = MQ below (xQ (dC, dI) [(h_this, .inr (5, [.ref h_signs, .int v_size, .int t.1, .int t.2.1, .int t.2.2.1, .long t.2.2.2])), (h_signs, .inl (cC, 1000, .inl v_signs))] A (none)) args s 0 0 A := ⟨_, rfl⟩
  rw [← hQ]
  show W p l e rm_Text_readNext s m args below meth c s.heap [] 0 0 Q _
  obtain ⟨H, hH⟩ : ∃ H, H = s.heap := ⟨_, rfl⟩
  obtain ⟨locs, hlocs⟩ : ∃ L : List Loc, L = [] := ⟨_, rfl⟩
  rw [← hlocs] at hS ⊢
  have hS : va_S A s.heap H locs := by rw [hH]; exact hS
  rw [← hH] at hP ⊢
  replace hf := f_Text_readNext_u hf
  have lp_0 : ∀ (k_38 : (Int32) → Option (Int32 × Int32 × Int32 × Int64)) (hk_38 : ∀ (v_at_0e : Int32) (H : Heap) (locs : List Loc) (ls : Array Slot), k_38 v_at_0e = some t → va_P (dC, dI) vwCl [(h_this, .inr (5, [.ref h_signs, .int v_size, .int v_at_0e, .int v_kind, .int v_amount, .long v_letters])), (h_signs, .inl (cC, 1000, .inl v_signs))] H → va_D A [(h_this, .inr (5, [.ref h_signs, .int v_size, .int v_at_0e, .int v_kind, .int v_amount, .long v_letters])), (h_signs, .inl (cC, 1000, .inl v_signs))] → va_S A s.heap H locs → lv_has ls 2 [(0, .ref h_this)] → W p l e rm_Text_readNext s m args below meth c H locs 0 0 Q (F0 m 38 ls [])), ∀ (n : Nat) (v_at_0 : Int32) (H : Heap) (locs : List Loc) (ls : Array Slot), L_Text_readNext_0 fu v_size v_signs k_38 n v_at_0 = some t → va_P (dC, dI) vwCl [(h_this, .inr (5, [.ref h_signs, .int v_size, .int v_at_0, .int v_kind, .int v_amount, .long v_letters])), (h_signs, .inl (cC, 1000, .inl v_signs))] H → va_D A [(h_this, .inr (5, [.ref h_signs, .int v_size, .int v_at_0, .int v_kind, .int v_amount, .long v_letters])), (h_signs, .inl (cC, 1000, .inl v_signs))] → va_S A s.heap H locs → lv_has ls 2 [(0, .ref h_this)] → W p l e rm_Text_readNext s m args below meth c H locs 0 0 Q (F0 m 0 ls []) := by
    intro k_38 hk_38 n
    induction n with
    | zero => intro v_at_0 H locs ls hf; exact (L_Text_readNext_0_z hf).elim
    | succ n ih =>
      intro v_at_0 H locs ls hf hP hD hS hl
      replace hf := L_Text_readNext_0_u hf
      refine lv_aload_n hx hb d_Text_readNext_0 rfl (lv_at hl 0 rfl) ?_
      refine va_get (D := (dC, dI)) (ci := 5) (v := .int v_at_0) (C := R_Text) (T := T_Text) (N := 6) hx hb hT i_Text hown hK hP 0 rfl rfl 2 (by decide) (hT _ kF_Text_19) (fun _ h9 => h9) rfl d_Text_readNext_1 ?_
      refine lv_aload_n hx hb d_Text_readNext_4 rfl (lv_at hl 0 rfl) ?_
      refine va_get (D := (dC, dI)) (ci := 5) (v := .int v_size) (C := R_Text) (T := T_Text) (N := 6) hx hb hT i_Text hown hK hP 0 rfl rfl 1 (by decide) (hT _ kF_Text_15) (fun _ h9 => h9) rfl d_Text_readNext_5 ?_
      refine lv_icmp_ge (tgt := 38) hx hb d_Text_readNext_8 (by decide) (fun c_1 => ?_) (fun c_1 => ?_)
      · replace hf := o_pos c_1 hf
        exact hk_38 v_at_0 H locs ls hf hP hD hS (lv_sub hl [0] rfl)
      · replace hf := o_neg c_1 hf
        refine lv_aload_n hx hb d_Text_readNext_11 rfl (lv_at hl 0 rfl) ?_
        refine va_get (D := (dC, dI)) (ci := 5) (v := .ref h_signs) (C := R_Text) (T := T_Text) (N := 6) hx hb hT i_Text hown hK hP 0 rfl rfl 0 (by decide) (hT _ kF_Text_9) (fun _ h9 => h9) rfl d_Text_readNext_12 ?_
        refine lv_aload_n hx hb d_Text_readNext_15 rfl (lv_at hl 0 rfl) ?_
        refine va_get (D := (dC, dI)) (ci := 5) (v := .int v_at_0) (C := R_Text) (T := T_Text) (N := 6) hx hb hT i_Text hown hK hP 0 rfl rfl 2 (by decide) (hT _ kF_Text_19) (fun _ h9 => h9) rfl d_Text_readNext_16 ?_
        obtain ⟨hi_2, hf⟩ := o_in hf
        refine va_cald hx hb hK hP 1 2 rfl rfl hi_2 d_Text_readNext_19 ?_
        refine lv_bipush (v := 32) hx hb d_Text_readNext_20 (by decide) ?_
        refine lv_icmp_ne (tgt := 38) hx hb d_Text_readNext_22 (by decide) (fun c_3 => ?_) (fun c_3 => ?_)
        · replace hf := o_neg c_3 hf
          exact hk_38 v_at_0 H locs ls hf hP hD hS (lv_sub hl [0] rfl)
        · replace hf := o_pos c_3 hf
          refine lv_aload_n hx hb d_Text_readNext_25 rfl (lv_at hl 0 rfl) ?_
          refine lv_dup hx hb d_Text_readNext_26 rfl ?_
          refine va_get (D := (dC, dI)) (ci := 5) (v := .int v_at_0) (C := R_Text) (T := T_Text) (N := 6) hx hb hT i_Text hown hK hP 0 rfl rfl 2 (by decide) (hT _ kF_Text_19) (fun _ h9 => h9) rfl d_Text_readNext_27 ?_
          refine lv_iconst (v := 1) hx hb d_Text_readNext_30 (by decide) ?_
          refine lv_iadd hx hb d_Text_readNext_31 ?_
          refine va_put (D := (dC, dI)) (ci := 5) (v := .int (v_at_0 + 1)) (ty := .int) (C := R_Text) (T := T_Text) (N := 6) hx hb hT i_Text ty_Text ty_Text_ok n_Text hown hK hP hD hS 0 rfl rfl 2 (by decide) (hT _ kF_Text_19) (fun _ h9 => h9) rfl (by decide +kernel) rfl rfl (Nat.le_of_ble_eq_true rfl) d_Text_readNext_32 (fun H locs hP hD hS => ?_)
          have hP : va_P (dC, dI) vwCl [(h_this, .inr (5, [.ref h_signs, .int v_size, .int (v_at_0 + 1), .int v_kind, .int v_amount, .long v_letters])), (h_signs, .inl (cC, 1000, .inl v_signs))] H := hP
          have hD : va_D A [(h_this, .inr (5, [.ref h_signs, .int v_size, .int (v_at_0 + 1), .int v_kind, .int v_amount, .long v_letters])), (h_signs, .inl (cC, 1000, .inl v_signs))] := hD
          refine lv_goto (tgt := 0) hx hb d_Text_readNext_35 (by decide) ?_
          exact ih (v_at_0 + 1) H locs ls hf hP hD hS (lv_sub hl [0] rfl)
  refine lp_0 _ (fun v_at_0e H locs ls hf hP hD hS hl => ?_) fu v_at H locs ls hf hP hD hS (lv_sub hl [0] rfl)
  refine lv_aload_n hx hb d_Text_readNext_38 rfl (lv_at hl 0 rfl) ?_
  refine lv_aload_n hx hb d_Text_readNext_39 rfl (lv_at hl 0 rfl) ?_
  refine va_get (D := (dC, dI)) (ci := 5) (v := .int v_at_0e) (C := R_Text) (T := T_Text) (N := 6) hx hb hT i_Text hown hK hP 0 rfl rfl 2 (by decide) (hT _ kF_Text_19) (fun _ h9 => h9) rfl d_Text_readNext_40 ?_
  obtain ⟨t_4, hg_4, hf⟩ := o_bind hf
  refine x_virt (w' := [(h_this, .inr (5, [.ref h_signs, .int v_size, .int v_at_0e, .int v_kind, .int v_amount, .long v_letters])), (h_signs, .inl (cC, 1000, .inl v_signs))]) (As := [.int v_at_0e]) (rest := []) hx hb hml hl.1 hown hT hK hN hP hD hS hA (c_Text_signAt l dC dI cI cL cC h_this h_signs H.size v_size v_at_0e v_kind v_amount v_letters v_signs v_at_0e t_4 hg_4) kM_Text_25 kI_Text_signAt kS_74 kN_Text kC_Text_signAt hd_Text_signAt rfl 0 rfl rfl rfl ⟨Nat.le_of_ble_eq_true rfl, Nat.le_of_ble_eq_true rfl⟩ rfl rfl ⟨Nat.zero_le _, Nat.zero_le _⟩ rfl (Nat.le_of_ble_eq_true rfl) d_Text_readNext_43 [0, 1] rfl rfl [.inr 0, .inr 1] rfl rfl rfl (fun H locs hP hD hS => ?_)
  refine lv_istore_n (lv' := [(1, .int t_4), (0, .ref h_this)]) hx hb d_Text_readNext_46 rfl hl (by decide) rfl (fun ls hl => ?_)
  refine lv_aload_n hx hb d_Text_readNext_47 rfl (lv_at hl 1 rfl) ?_
  refine va_get (D := (dC, dI)) (ci := 5) (v := .int v_at_0e) (C := R_Text) (T := T_Text) (N := 6) hx hb hT i_Text hown hK hP 0 rfl rfl 2 (by decide) (hT _ kF_Text_19) (fun _ h9 => h9) rfl d_Text_readNext_48 ?_
  refine lv_aload_n hx hb d_Text_readNext_51 rfl (lv_at hl 1 rfl) ?_
  refine va_get (D := (dC, dI)) (ci := 5) (v := .int v_size) (C := R_Text) (T := T_Text) (N := 6) hx hb hT i_Text hown hK hP 0 rfl rfl 1 (by decide) (hT _ kF_Text_15) (fun _ h9 => h9) rfl d_Text_readNext_52 ?_
  refine lv_icmp_lt (tgt := 66) hx hb d_Text_readNext_55 (by decide) (fun c_5 => ?_) (fun c_5 => ?_)
  · replace hf := o_pos c_5 hf
    refine lv_iload_n hx hb d_Text_readNext_66 rfl (lv_at hl 0 rfl) ?_
    refine lv_bipush (v := 112) hx hb d_Text_readNext_67 (by decide) ?_
    refine lv_icmp_ne (tgt := 95) hx hb d_Text_readNext_69 (by decide) (fun c_6 => ?_) (fun c_6 => ?_)
    · replace hf := o_neg c_6 hf
      refine lv_iload_n hx hb d_Text_readNext_95 rfl (lv_at hl 0 rfl) ?_
      obtain ⟨t_7, hg_7, hf⟩ := o_bind hf
      refine x_stat (w' := [(h_this, .inr (5, [.ref h_signs, .int v_size, .int v_at_0e, .int v_kind, .int v_amount, .long v_letters])), (h_signs, .inl (cC, 1000, .inl v_signs))]) (As := [.int t_4]) (rest := []) hx hb hml hl.1 hown hT hK hN hP hD hS hA (c_Text_isLetter l dC dI cI cL cC H.size t_4 t_7 hg_7) kM_Text_32 kT_Text_isLetter kN_Text kC_Text_isLetter hd_Text_isLetter rfl ⟨Nat.le_of_ble_eq_true rfl, Nat.le_of_ble_eq_true rfl⟩ rfl rfl ⟨Nat.zero_le _, Nat.zero_le _⟩ rfl (Nat.le_of_ble_eq_true rfl) d_Text_readNext_96 [] rfl rfl [.inl 0, .inl 1] rfl rfl rfl (fun H locs hP hD hS => ?_)
      refine lv_if_eq (tgt := 109) hx hb d_Text_readNext_99 (by decide) (fun c_8 => ?_) (fun c_8 => ?_)
      · replace hf := o_pos c_8 hf
        refine lv_iload_n hx hb d_Text_readNext_109 rfl (lv_at hl 0 rfl) ?_
        obtain ⟨t_9, hg_9, hf⟩ := o_bind hf
        refine x_stat (w' := [(h_this, .inr (5, [.ref h_signs, .int v_size, .int v_at_0e, .int v_kind, .int v_amount, .long v_letters])), (h_signs, .inl (cC, 1000, .inl v_signs))]) (As := [.int t_4]) (rest := []) hx hb hml hl.1 hown hT hK hN hP hD hS hA (c_Text_isDigit l dC dI cI cL cC H.size t_4 t_9 hg_9) kM_Text_42 kT_Text_isDigit kN_Text kC_Text_isDigit hd_Text_isDigit rfl ⟨Nat.le_of_ble_eq_true rfl, Nat.le_of_ble_eq_true rfl⟩ rfl rfl ⟨Nat.zero_le _, Nat.zero_le _⟩ rfl (Nat.le_of_ble_eq_true rfl) d_Text_readNext_110 [] rfl rfl [.inl 0, .inl 1] rfl rfl rfl (fun H locs hP hD hS => ?_)
        refine lv_if_eq (tgt := 123) hx hb d_Text_readNext_113 (by decide) (fun c_10 => ?_) (fun c_10 => ?_)
        · replace hf := o_pos c_10 hf
          refine lv_aload_n hx hb d_Text_readNext_123 rfl (lv_at hl 1 rfl) ?_
          refine lv_iload_n hx hb d_Text_readNext_124 rfl (lv_at hl 0 rfl) ?_
          obtain ⟨t_11, hg_11, hf⟩ := o_bind hf
          refine x_virt (w' := [(h_this, .inr (5, [.ref h_signs, .int v_size, .int t_11.1, .int t_11.2, .int v_amount, .long v_letters])), (h_signs, .inl (cC, 1000, .inl v_signs))]) (As := [.int t_4]) (rest := []) hx hb hml hl.1 hown hT hK hN hP hD hS hA (c_Text_readSign l dC dI cI cL cC h_this h_signs H.size v_size v_at_0e v_kind v_amount v_letters v_signs t_4 t_11 hg_11) kM_Text_48 kI_Text_readSign kS_80 kN_Text kC_Text_readSign hd_Text_readSign rfl 0 rfl rfl rfl ⟨Nat.le_of_ble_eq_true rfl, Nat.le_of_ble_eq_true rfl⟩ rfl rfl ⟨Nat.zero_le _, Nat.zero_le _⟩ rfl (Nat.le_of_ble_eq_true rfl) d_Text_readNext_125 [0, 1] rfl rfl [.inr 0, .inr 1] rfl rfl rfl (fun H locs hP hD hS => ?_)
          rw [hQ, ← Option.some.inj hf]
          exact W.vret hx hb hr (fun t9 ht9 hW9 => ⟨rfl, by rw [ht9]; exact hP, hS.F ht9⟩) hS.2.2 d_Text_readNext_128
        · replace hf := o_neg c_10 hf
          refine lv_aload_n hx hb d_Text_readNext_116 rfl (lv_at hl 1 rfl) ?_
          obtain ⟨t_12, hg_12, hf⟩ := o_bind hf
          refine x_virt (w' := [(h_this, .inr (5, [.ref h_signs, .int v_size, .int t_12.1, .int t_12.2.1, .int t_12.2.2, .long v_letters])), (h_signs, .inl (cC, 1000, .inl v_signs))]) (As := []) (rest := []) hx hb hml hl.1 hown hT hK hN hP hD hS hA (c_Text_readNumber l dC dI cI cL cC h_this h_signs H.size fu v_size v_at_0e v_kind v_amount v_letters v_signs t_12 hg_12) kM_Text_45 kI_Text_readNumber kS_83 kN_Text kC_Text_readNumber hd_Text_readNumber rfl 0 rfl rfl rfl ⟨Nat.le_of_ble_eq_true rfl, Nat.le_of_ble_eq_true rfl⟩ rfl rfl ⟨Nat.zero_le _, Nat.zero_le _⟩ rfl (Nat.le_of_ble_eq_true rfl) d_Text_readNext_117 [0, 1] rfl rfl [.inr 0, .inr 1] rfl rfl rfl (fun H locs hP hD hS => ?_)
          refine lv_goto (tgt := 128) hx hb d_Text_readNext_120 (by decide) ?_
          rw [hQ, ← Option.some.inj hf]
          exact W.vret hx hb hr (fun t9 ht9 hW9 => ⟨rfl, by rw [ht9]; exact hP, hS.F ht9⟩) hS.2.2 d_Text_readNext_128
      · replace hf := o_neg c_8 hf
        refine lv_aload_n hx hb d_Text_readNext_102 rfl (lv_at hl 1 rfl) ?_
        obtain ⟨t_13, hg_13, hf⟩ := o_bind hf
        refine x_virt (w' := [(h_this, .inr (5, [.ref h_signs, .int v_size, .int t_13.1, .int t_13.2.1, .int v_amount, .long t_13.2.2])), (h_signs, .inl (cC, 1000, .inl v_signs))]) (As := []) (rest := []) hx hb hml hl.1 hown hT hK hN hP hD hS hA (c_Text_readLetters l dC dI cI cL cC h_this h_signs H.size fu v_size v_at_0e v_kind v_amount v_letters v_signs t_13 hg_13) kM_Text_39 kI_Text_readLetters kS_86 kN_Text kC_Text_readLetters hd_Text_readLetters rfl 0 rfl rfl rfl ⟨Nat.le_of_ble_eq_true rfl, Nat.le_of_ble_eq_true rfl⟩ rfl rfl ⟨Nat.zero_le _, Nat.zero_le _⟩ rfl (Nat.le_of_ble_eq_true rfl) d_Text_readNext_103 [0, 1] rfl rfl [.inr 0, .inr 1] rfl rfl rfl (fun H locs hP hD hS => ?_)
        refine lv_goto (tgt := 128) hx hb d_Text_readNext_106 (by decide) ?_
        rw [hQ, ← Option.some.inj hf]
        exact W.vret hx hb hr (fun t9 ht9 hW9 => ⟨rfl, by rw [ht9]; exact hP, hS.F ht9⟩) hS.2.2 d_Text_readNext_128
    · replace hf := o_pos c_6 hf
      refine lv_aload_n hx hb d_Text_readNext_72 rfl (lv_at hl 1 rfl) ?_
      refine lv_aload_n hx hb d_Text_readNext_73 rfl (lv_at hl 1 rfl) ?_
      refine va_get (D := (dC, dI)) (ci := 5) (v := .int v_at_0e) (C := R_Text) (T := T_Text) (N := 6) hx hb hT i_Text hown hK hP 0 rfl rfl 2 (by decide) (hT _ kF_Text_19) (fun _ h9 => h9) rfl d_Text_readNext_74 ?_
      refine lv_iconst (v := 1) hx hb d_Text_readNext_77 (by decide) ?_
      refine lv_iadd hx hb d_Text_readNext_78 ?_
      obtain ⟨t_14, hg_14, hf⟩ := o_bind hf
      refine x_virt (w' := [(h_this, .inr (5, [.ref h_signs, .int v_size, .int v_at_0e, .int v_kind, .int v_amount, .long v_letters])), (h_signs, .inl (cC, 1000, .inl v_signs))]) (As := [.int (v_at_0e + 1)]) (rest := []) hx hb hml hl.1 hown hT hK hN hP hD hS hA (c_Text_signAt l dC dI cI cL cC h_this h_signs H.size v_size v_at_0e v_kind v_amount v_letters v_signs (v_at_0e + 1) t_14 hg_14) kM_Text_25 kI_Text_signAt kS_74 kN_Text kC_Text_signAt hd_Text_signAt rfl 0 rfl rfl rfl ⟨Nat.le_of_ble_eq_true rfl, Nat.le_of_ble_eq_true rfl⟩ rfl rfl ⟨Nat.zero_le _, Nat.zero_le _⟩ rfl (Nat.le_of_ble_eq_true rfl) d_Text_readNext_79 [0, 1] rfl rfl [.inr 0, .inr 1] rfl rfl rfl (fun H locs hP hD hS => ?_)
      obtain ⟨t_15, hg_15, hf⟩ := o_bind hf
      refine x_stat (w' := [(h_this, .inr (5, [.ref h_signs, .int v_size, .int v_at_0e, .int v_kind, .int v_amount, .long v_letters])), (h_signs, .inl (cC, 1000, .inl v_signs))]) (As := [.int t_14]) (rest := []) hx hb hml hl.1 hown hT hK hN hP hD hS hA (c_Text_isLetter l dC dI cI cL cC H.size t_14 t_15 hg_15) kM_Text_32 kT_Text_isLetter kN_Text kC_Text_isLetter hd_Text_isLetter rfl ⟨Nat.le_of_ble_eq_true rfl, Nat.le_of_ble_eq_true rfl⟩ rfl rfl ⟨Nat.zero_le _, Nat.zero_le _⟩ rfl (Nat.le_of_ble_eq_true rfl) d_Text_readNext_82 [] rfl rfl [.inl 0, .inl 1] rfl rfl rfl (fun H locs hP hD hS => ?_)
      refine lv_if_ne (tgt := 95) hx hb d_Text_readNext_85 (by decide) (fun c_16 => ?_) (fun c_16 => ?_)
      · replace hf := o_neg c_16 hf
        refine lv_iload_n hx hb d_Text_readNext_95 rfl (lv_at hl 0 rfl) ?_
        obtain ⟨t_17, hg_17, hf⟩ := o_bind hf
        refine x_stat (w' := [(h_this, .inr (5, [.ref h_signs, .int v_size, .int v_at_0e, .int v_kind, .int v_amount, .long v_letters])), (h_signs, .inl (cC, 1000, .inl v_signs))]) (As := [.int t_4]) (rest := []) hx hb hml hl.1 hown hT hK hN hP hD hS hA (c_Text_isLetter l dC dI cI cL cC H.size t_4 t_17 hg_17) kM_Text_32 kT_Text_isLetter kN_Text kC_Text_isLetter hd_Text_isLetter rfl ⟨Nat.le_of_ble_eq_true rfl, Nat.le_of_ble_eq_true rfl⟩ rfl rfl ⟨Nat.zero_le _, Nat.zero_le _⟩ rfl (Nat.le_of_ble_eq_true rfl) d_Text_readNext_96 [] rfl rfl [.inl 0, .inl 1] rfl rfl rfl (fun H locs hP hD hS => ?_)
        refine lv_if_eq (tgt := 109) hx hb d_Text_readNext_99 (by decide) (fun c_18 => ?_) (fun c_18 => ?_)
        · replace hf := o_pos c_18 hf
          refine lv_iload_n hx hb d_Text_readNext_109 rfl (lv_at hl 0 rfl) ?_
          obtain ⟨t_19, hg_19, hf⟩ := o_bind hf
          refine x_stat (w' := [(h_this, .inr (5, [.ref h_signs, .int v_size, .int v_at_0e, .int v_kind, .int v_amount, .long v_letters])), (h_signs, .inl (cC, 1000, .inl v_signs))]) (As := [.int t_4]) (rest := []) hx hb hml hl.1 hown hT hK hN hP hD hS hA (c_Text_isDigit l dC dI cI cL cC H.size t_4 t_19 hg_19) kM_Text_42 kT_Text_isDigit kN_Text kC_Text_isDigit hd_Text_isDigit rfl ⟨Nat.le_of_ble_eq_true rfl, Nat.le_of_ble_eq_true rfl⟩ rfl rfl ⟨Nat.zero_le _, Nat.zero_le _⟩ rfl (Nat.le_of_ble_eq_true rfl) d_Text_readNext_110 [] rfl rfl [.inl 0, .inl 1] rfl rfl rfl (fun H locs hP hD hS => ?_)
          refine lv_if_eq (tgt := 123) hx hb d_Text_readNext_113 (by decide) (fun c_20 => ?_) (fun c_20 => ?_)
          · replace hf := o_pos c_20 hf
            refine lv_aload_n hx hb d_Text_readNext_123 rfl (lv_at hl 1 rfl) ?_
            refine lv_iload_n hx hb d_Text_readNext_124 rfl (lv_at hl 0 rfl) ?_
            obtain ⟨t_21, hg_21, hf⟩ := o_bind hf
            refine x_virt (w' := [(h_this, .inr (5, [.ref h_signs, .int v_size, .int t_21.1, .int t_21.2, .int v_amount, .long v_letters])), (h_signs, .inl (cC, 1000, .inl v_signs))]) (As := [.int t_4]) (rest := []) hx hb hml hl.1 hown hT hK hN hP hD hS hA (c_Text_readSign l dC dI cI cL cC h_this h_signs H.size v_size v_at_0e v_kind v_amount v_letters v_signs t_4 t_21 hg_21) kM_Text_48 kI_Text_readSign kS_80 kN_Text kC_Text_readSign hd_Text_readSign rfl 0 rfl rfl rfl ⟨Nat.le_of_ble_eq_true rfl, Nat.le_of_ble_eq_true rfl⟩ rfl rfl ⟨Nat.zero_le _, Nat.zero_le _⟩ rfl (Nat.le_of_ble_eq_true rfl) d_Text_readNext_125 [0, 1] rfl rfl [.inr 0, .inr 1] rfl rfl rfl (fun H locs hP hD hS => ?_)
            rw [hQ, ← Option.some.inj hf]
            exact W.vret hx hb hr (fun t9 ht9 hW9 => ⟨rfl, by rw [ht9]; exact hP, hS.F ht9⟩) hS.2.2 d_Text_readNext_128
          · replace hf := o_neg c_20 hf
            refine lv_aload_n hx hb d_Text_readNext_116 rfl (lv_at hl 1 rfl) ?_
            obtain ⟨t_22, hg_22, hf⟩ := o_bind hf
            refine x_virt (w' := [(h_this, .inr (5, [.ref h_signs, .int v_size, .int t_22.1, .int t_22.2.1, .int t_22.2.2, .long v_letters])), (h_signs, .inl (cC, 1000, .inl v_signs))]) (As := []) (rest := []) hx hb hml hl.1 hown hT hK hN hP hD hS hA (c_Text_readNumber l dC dI cI cL cC h_this h_signs H.size fu v_size v_at_0e v_kind v_amount v_letters v_signs t_22 hg_22) kM_Text_45 kI_Text_readNumber kS_83 kN_Text kC_Text_readNumber hd_Text_readNumber rfl 0 rfl rfl rfl ⟨Nat.le_of_ble_eq_true rfl, Nat.le_of_ble_eq_true rfl⟩ rfl rfl ⟨Nat.zero_le _, Nat.zero_le _⟩ rfl (Nat.le_of_ble_eq_true rfl) d_Text_readNext_117 [0, 1] rfl rfl [.inr 0, .inr 1] rfl rfl rfl (fun H locs hP hD hS => ?_)
            refine lv_goto (tgt := 128) hx hb d_Text_readNext_120 (by decide) ?_
            rw [hQ, ← Option.some.inj hf]
            exact W.vret hx hb hr (fun t9 ht9 hW9 => ⟨rfl, by rw [ht9]; exact hP, hS.F ht9⟩) hS.2.2 d_Text_readNext_128
        · replace hf := o_neg c_18 hf
          refine lv_aload_n hx hb d_Text_readNext_102 rfl (lv_at hl 1 rfl) ?_
          obtain ⟨t_23, hg_23, hf⟩ := o_bind hf
          refine x_virt (w' := [(h_this, .inr (5, [.ref h_signs, .int v_size, .int t_23.1, .int t_23.2.1, .int v_amount, .long t_23.2.2])), (h_signs, .inl (cC, 1000, .inl v_signs))]) (As := []) (rest := []) hx hb hml hl.1 hown hT hK hN hP hD hS hA (c_Text_readLetters l dC dI cI cL cC h_this h_signs H.size fu v_size v_at_0e v_kind v_amount v_letters v_signs t_23 hg_23) kM_Text_39 kI_Text_readLetters kS_86 kN_Text kC_Text_readLetters hd_Text_readLetters rfl 0 rfl rfl rfl ⟨Nat.le_of_ble_eq_true rfl, Nat.le_of_ble_eq_true rfl⟩ rfl rfl ⟨Nat.zero_le _, Nat.zero_le _⟩ rfl (Nat.le_of_ble_eq_true rfl) d_Text_readNext_103 [0, 1] rfl rfl [.inr 0, .inr 1] rfl rfl rfl (fun H locs hP hD hS => ?_)
          refine lv_goto (tgt := 128) hx hb d_Text_readNext_106 (by decide) ?_
          rw [hQ, ← Option.some.inj hf]
          exact W.vret hx hb hr (fun t9 ht9 hW9 => ⟨rfl, by rw [ht9]; exact hP, hS.F ht9⟩) hS.2.2 d_Text_readNext_128
      · replace hf := o_pos c_16 hf
        refine lv_aload_n hx hb d_Text_readNext_88 rfl (lv_at hl 1 rfl) ?_
        obtain ⟨t_24, hg_24, hf⟩ := o_bind hf
        refine x_virt (w' := [(h_this, .inr (5, [.ref h_signs, .int v_size, .int t_24.1, .int t_24.2.1, .int t_24.2.2, .long v_letters])), (h_signs, .inl (cC, 1000, .inl v_signs))]) (As := []) (rest := []) hx hb hml hl.1 hown hT hK hN hP hD hS hA (c_Text_readPoint l dC dI cI cL cC h_this h_signs H.size fu v_size v_at_0e v_kind v_amount v_letters v_signs t_24 hg_24) kM_Text_36 kI_Text_readPoint kS_89 kN_Text kC_Text_readPoint hd_Text_readPoint rfl 0 rfl rfl rfl ⟨Nat.le_of_ble_eq_true rfl, Nat.le_of_ble_eq_true rfl⟩ rfl rfl ⟨Nat.zero_le _, Nat.zero_le _⟩ rfl (Nat.le_of_ble_eq_true rfl) d_Text_readNext_89 [0, 1] rfl rfl [.inr 0, .inr 1] rfl rfl rfl (fun H locs hP hD hS => ?_)
        refine lv_goto (tgt := 128) hx hb d_Text_readNext_92 (by decide) ?_
        rw [hQ, ← Option.some.inj hf]
        exact W.vret hx hb hr (fun t9 ht9 hW9 => ⟨rfl, by rw [ht9]; exact hP, hS.F ht9⟩) hS.2.2 d_Text_readNext_128
  · replace hf := o_neg c_5 hf
    refine lv_aload_n hx hb d_Text_readNext_58 rfl (lv_at hl 1 rfl) ?_
    refine lv_iconst (v := 0) hx hb d_Text_readNext_59 (by decide) ?_
    refine va_put (D := (dC, dI)) (ci := 5) (v := .int 0) (ty := .int) (C := R_Text) (T := T_Text) (N := 6) hx hb hT i_Text ty_Text ty_Text_ok n_Text hown hK hP hD hS 0 rfl rfl 3 (by decide) (hT _ kF_Text_29) (fun _ h9 => h9) rfl (by decide +kernel) rfl rfl (Nat.le_of_ble_eq_true rfl) d_Text_readNext_60 (fun H locs hP hD hS => ?_)
    have hP : va_P (dC, dI) vwCl [(h_this, .inr (5, [.ref h_signs, .int v_size, .int v_at_0e, .int 0, .int v_amount, .long v_letters])), (h_signs, .inl (cC, 1000, .inl v_signs))] H := hP
    have hD : va_D A [(h_this, .inr (5, [.ref h_signs, .int v_size, .int v_at_0e, .int 0, .int v_amount, .long v_letters])), (h_signs, .inl (cC, 1000, .inl v_signs))] := hD
    refine lv_goto (tgt := 128) hx hb d_Text_readNext_63 (by decide) ?_
    rw [hQ, ← Option.some.inj hf]
    exact W.vret hx hb hr (fun t9 ht9 hW9 => ⟨rfl, by rw [ht9]; exact hP, hS.F ht9⟩) hS.2.2 d_Text_readNext_128
def rm_Text_readFirst : Room := { frames := 4, cells := 0, slots := 0, locals := 84 }
set_option maxHeartbeats 4000000 in
set_option maxRecDepth 100000 in
theorem c_Text_readFirst (l : Launch) (dC : Nat → ClassId) (dI : Nat → Nat → Nat) (cI cL cC : ClassId) (h_this h_signs : Nat) (sz : Nat) (fu : Nat) (v_size : Int32) (v_at : Int32) (v_kind : Int32) (v_amount : Int32) (v_letters : Int64) (v_signs : Nat → Int32) (t : Int32 × Int32 × Int32 × Int64) (hf : f_Text_readFirst fu v_size v_at v_kind v_amount v_letters v_signs = some t) : Met l y_Text_readFirst (Cond.code y_Text_readFirst prog_7_method_3_code 1 none :: xT) rm_Text_readFirst (va_Pc [.ref h_this] (xP (dC, dI) (xTy cI cL cC) [(h_this, .inr (5, [.ref h_signs, .int v_size, .int v_at, .int v_kind, .int v_amount, .long v_letters])), (h_signs, .inl (cC, 1000, .inl v_signs))] sz)) (xQ (dC, dI) [(h_this, .inr (5, [.ref h_signs, .int v_size, .int t.1, .int t.2.1, .int t.2.2.1, .long t.2.2.2])), (h_signs, .inl (cC, 1000, .inl v_signs))] (va_A [(h_this, .inr (5, [.ref h_signs, .int v_size, .int v_at, .int v_kind, .int v_amount, .long v_letters])), (h_signs, .inl (cC, 1000, .inl v_signs))] sz) (none)) 0 0 (va_A [(h_this, .inr (5, [.ref h_signs, .int v_size, .int v_at, .int v_kind, .int v_amount, .long v_letters])), (h_signs, .inl (cC, 1000, .inl v_signs))] sz) := by
  refine Met.ofW (cc := prog_7_method_3_code) (maxL := 1) (ret := none) (by decide) rfl ?_
  intro p e s m args below meth c s₁ B hml hv
  obtain ⟨hargs, hsz, hP, hK, hN, hD0⟩ := hv
  have hx := B.exec
  have hb := B.bytes
  have hr := B.returns
  have hT : ∀ w ∈ xT, w.before args s = true := fun w hw => atoms_spec (ws := Cond.code y_Text_readFirst prog_7_method_3_code 1 none :: xT) B.pre w (List.mem_cons_of_mem _ hw)
  have hown : s.vm.findClass R_Text = some m.cls := findClass_of_methodNamed B.named
  have hlocks := B.notSynchronized
  subst hsz
  have hD := hD0.self (sz := s.heap.size)
  generalize hAe : va_A [(h_this, .inr (5, [.ref h_signs, .int v_size, .int v_at, .int v_kind, .int v_amount, .long v_letters])), (h_signs, .inl (cC, 1000, .inl v_signs))] s.heap.size = A at hD ⊢
  have hA : ∀ q : Nat, s.heap.size ≤ q → A q := fun q h => by rw [← hAe]; exact Or.inr h
  have hS : va_S A s.heap s.heap [] := va_S.rf
  have hP : va_P (dC, dI) vwCl [(h_this, .inr (5, [.ref h_signs, .int v_size, .int v_at, .int v_kind, .int v_amount, .long v_letters])), (h_signs, .inl (cC, 1000, .inl v_signs))] s.heap := hP
  have hl := lv_entry ([.ref h_this]) (n := 1) (Nat.le_of_ble_eq_true rfl)
  rw [show entryFrame m args 1 = entryFrame m ([.ref h_this] : List Value).toArray 1 from by rw [hargs], lg_entry_eq]
  generalize (lg_sl ([.ref h_this]) ++ List.replicate (1 - (lg_sl ([.ref h_this])).length) Slot.unset).toArray = ls at hl ⊢
  have hl : lv_has ls 1 [(0, .ref h_this)] := hl
  obtain ⟨Q, hQ⟩ : ∃ Q, Q = MQ below (xQ (dC, dI) [(h_this, .inr (5, [.ref h_signs, .int v_size, .int t.1, .int t.2.1, .int t.2.2.1, .long t.2.2.2])), (h_signs, .inl (cC, 1000, .inl v_signs))] A (none)) args s 0 0 A := ⟨_, rfl⟩
  rw [← hQ]
  show W p l e rm_Text_readFirst s m args below meth c s.heap [] 0 0 Q _
  obtain ⟨H, hH⟩ : ∃ H, H = s.heap := ⟨_, rfl⟩
  obtain ⟨locs, hlocs⟩ : ∃ L : List Loc, L = [] := ⟨_, rfl⟩
  rw [← hlocs] at hS ⊢
  have hS : va_S A s.heap H locs := by rw [hH]; exact hS
  rw [← hH] at hP ⊢
  replace hf := f_Text_readFirst_u hf
  refine lv_aload_n hx hb d_Text_readFirst_0 rfl (lv_at hl 0 rfl) ?_
  refine lv_iconst (v := 0) hx hb d_Text_readFirst_1 (by decide) ?_
  refine va_put (D := (dC, dI)) (ci := 5) (v := .int 0) (ty := .int) (C := R_Text) (T := T_Text) (N := 6) hx hb hT i_Text ty_Text ty_Text_ok n_Text hown hK hP hD hS 0 rfl rfl 2 (by decide) (hT _ kF_Text_19) (fun _ h9 => h9) rfl (by decide +kernel) rfl rfl (Nat.le_of_ble_eq_true rfl) d_Text_readFirst_2 (fun H locs hP hD hS => ?_)
  have hP : va_P (dC, dI) vwCl [(h_this, .inr (5, [.ref h_signs, .int v_size, .int 0, .int v_kind, .int v_amount, .long v_letters])), (h_signs, .inl (cC, 1000, .inl v_signs))] H := hP
  have hD : va_D A [(h_this, .inr (5, [.ref h_signs, .int v_size, .int 0, .int v_kind, .int v_amount, .long v_letters])), (h_signs, .inl (cC, 1000, .inl v_signs))] := hD
  refine lv_aload_n hx hb d_Text_readFirst_5 rfl (lv_at hl 0 rfl) ?_
  obtain ⟨t_1, hg_1, hf⟩ := o_bind hf
  refine x_virt (w' := [(h_this, .inr (5, [.ref h_signs, .int v_size, .int t_1.1, .int t_1.2.1, .int t_1.2.2.1, .long t_1.2.2.2])), (h_signs, .inl (cC, 1000, .inl v_signs))]) (As := []) (rest := []) hx hb hml hl.1 hown hT hK hN hP hD hS hA (c_Text_readNext l dC dI cI cL cC h_this h_signs H.size fu v_size 0 v_kind v_amount v_letters v_signs t_1 hg_1) kM_Text_22 kI_Text_readNext kS_93 kN_Text kC_Text_readNext hd_Text_readNext rfl 0 rfl rfl rfl ⟨Nat.le_of_ble_eq_true rfl, Nat.le_of_ble_eq_true rfl⟩ rfl rfl ⟨Nat.zero_le _, Nat.zero_le _⟩ rfl (Nat.le_of_ble_eq_true rfl) d_Text_readFirst_6 [0, 1] rfl rfl [.inr 0, .inr 1] rfl rfl rfl (fun H locs hP hD hS => ?_)
  rw [hQ, ← Option.some.inj hf]
  exact W.vret hx hb hr (fun t9 ht9 hW9 => ⟨rfl, by rw [ht9]; exact hP, hS.F ht9⟩) hS.2.2 d_Text_readFirst_9
