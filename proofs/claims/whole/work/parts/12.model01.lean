def J_Model_trim_18 (v_thrown : Int32) (v_size : Int32) (l1_j18 : Int32) (s1_j18 : Int32) : Option (Int32 × Int32 × Int32) :=
  (if s1_j18 ≤ 0 then (some (v_size - l1_j18, s1_j18, v_size - l1_j18)) else (some (0, s1_j18, v_size)))
theorem J_Model_trim_18_u {v_thrown : Int32} {v_size : Int32} {l1_j18 : Int32} {s1_j18 : Int32} {t : Int32 × Int32 × Int32} (h : J_Model_trim_18 v_thrown v_size l1_j18 s1_j18 = some t) : (if s1_j18 ≤ 0 then (some (v_size - l1_j18, s1_j18, v_size - l1_j18)) else (some (0, s1_j18, v_size))) = some t := h
def f_Model_trim (v_thrown : Int32) (v_size : Int32) (p1 : Int32) : Option (Int32 × Int32 × Int32) :=
  (if p1 < 0 then (J_Model_trim_18 v_thrown v_size p1 1) else (if p1 ≤ v_size then (J_Model_trim_18 v_thrown v_size p1 0) else (J_Model_trim_18 v_thrown v_size p1 1)))
theorem f_Model_trim_u {v_thrown : Int32} {v_size : Int32} {p1 : Int32} {t : Int32 × Int32 × Int32} (h : f_Model_trim v_thrown v_size p1 = some t) : (if p1 < 0 then (J_Model_trim_18 v_thrown v_size p1 1) else (if p1 ≤ v_size then (J_Model_trim_18 v_thrown v_size p1 0) else (J_Model_trim_18 v_thrown v_size p1 1))) = some t := h
def f_Model_letter (v_size : Int32) (v_text : Nat → Int32) (p1 : Int32) : Option (Int32) :=
  (if v_size ≤ p1 then (some 0) else (bd p1 1000 (some (v_text (p1 : Int32).toNatClampNeg))))
theorem f_Model_letter_u {v_size : Int32} {v_text : Nat → Int32} {p1 : Int32} {t : Int32} (h : f_Model_letter v_size v_text p1 = some t) : (if v_size ≤ p1 then (some 0) else (bd p1 1000 (some (v_text (p1 : Int32).toNatClampNeg)))) = some t := h
def f_Model_isSmall (p1 : Int32) : Option (Int32) :=
  (if p1 < 97 then (some 0) else (if 122 < p1 then (some 0) else (some 1)))
theorem f_Model_isSmall_u {p1 : Int32} {t : Int32} (h : f_Model_isSmall p1 = some t) : (if p1 < 97 then (some 0) else (if 122 < p1 then (some 0) else (some 1))) = some t := h
def f_Model_isDigit (p1 : Int32) : Option (Int32) :=
  (if p1 < 48 then (some 0) else (if 57 < p1 then (some 0) else (some 1)))
theorem f_Model_isDigit_u {p1 : Int32} {t : Int32} (h : f_Model_isDigit p1 = some t) : (if p1 < 48 then (some 0) else (if 57 < p1 then (some 0) else (some 1))) = some t := h
def f_Model_word (v_words : Int32) (v_kinds : Nat → Int32) (v_values : Nat → Int64) (p1 : Int32) (p2 : Int64) : Option (Int32 × (Nat → Int32) × (Nat → Int64)) :=
  (bd v_words 1000 (bd v_words 1000 (some (v_words + 1, upd v_kinds (v_words : Int32).toNatClampNeg p1, vp_updL v_values (v_words : Int32).toNatClampNeg p2))))
theorem f_Model_word_u {v_words : Int32} {v_kinds : Nat → Int32} {v_values : Nat → Int64} {p1 : Int32} {p2 : Int64} {t : Int32 × (Nat → Int32) × (Nat → Int64)} (h : f_Model_word v_words v_kinds v_values p1 p2 = some t) : (bd v_words 1000 (bd v_words 1000 (some (v_words + 1, upd v_kinds (v_words : Int32).toNatClampNeg p1, vp_updL v_values (v_words : Int32).toNatClampNeg p2)))) = some t := h
def L_Model_letters_4 (fu : Nat) (v_size : Int32) (v_text : Nat → Int32) (l1_4 : Int32) (k_52 : Int32 → Int64 → Option (Int32 × Int32 × (Nat → Int32) × (Nat → Int64))) : Nat → Int32 → Int64 → Option (Int32 × Int32 × (Nat → Int32) × (Nat → Int64))
  | 0, _, _ => none
  | n + 1, l2_4, l3_4 => ((f_Model_letter v_size v_text l2_4).bind (fun t_1 => ((f_Model_isSmall t_1).bind (fun t_2 => (if t_2 = 0 then (k_52 l2_4 l3_4) else (if 8 ≤ (l2_4 - l1_4) then ((L_Model_letters_4 fu v_size v_text l1_4 k_52 n) (l2_4 + 1) l3_4) else ((f_Model_letter v_size v_text l2_4).bind (fun t_5 => ((L_Model_letters_4 fu v_size v_text l1_4 k_52 n) (l2_4 + 1) (l3_4 ||| (((t_5 : Int32).toInt64) <<< ((56 - (8 * (l2_4 - l1_4)) : Int32).toInt64 &&& 63))))))))))))
theorem L_Model_letters_4_z {fu : Nat} {v_size : Int32} {v_text : Nat → Int32} {l1_4 : Int32} {k_52 : Int32 → Int64 → Option (Int32 × Int32 × (Nat → Int32) × (Nat → Int64))} {l2_4 : Int32} {l3_4 : Int64} {t : Int32 × Int32 × (Nat → Int32) × (Nat → Int64)} (h : L_Model_letters_4 fu v_size v_text l1_4 k_52 0 l2_4 l3_4 = some t) : False := by cases (show (none : Option (Int32 × Int32 × (Nat → Int32) × (Nat → Int64))) = some t from h)
theorem L_Model_letters_4_u {fu : Nat} {v_size : Int32} {v_text : Nat → Int32} {l1_4 : Int32} {k_52 : Int32 → Int64 → Option (Int32 × Int32 × (Nat → Int32) × (Nat → Int64))} {n : Nat} {l2_4 : Int32} {l3_4 : Int64} {t : Int32 × Int32 × (Nat → Int32) × (Nat → Int64)} (h : L_Model_letters_4 fu v_size v_text l1_4 k_52 (n + 1) l2_4 l3_4 = some t) : ((f_Model_letter v_size v_text l2_4).bind (fun t_1 => ((f_Model_isSmall t_1).bind (fun t_2 => (if t_2 = 0 then (k_52 l2_4 l3_4) else (if 8 ≤ (l2_4 - l1_4) then ((L_Model_letters_4 fu v_size v_text l1_4 k_52 n) (l2_4 + 1) l3_4) else ((f_Model_letter v_size v_text l2_4).bind (fun t_5 => ((L_Model_letters_4 fu v_size v_text l1_4 k_52 n) (l2_4 + 1) (l3_4 ||| (((t_5 : Int32).toInt64) <<< ((56 - (8 * (l2_4 - l1_4)) : Int32).toInt64 &&& 63)))))))))))) = some t := h
def f_Model_letters (fu : Nat) (v_size : Int32) (v_words : Int32) (v_text : Nat → Int32) (v_kinds : Nat → Int32) (v_values : Nat → Int64) (p1 : Int32) : Option (Int32 × Int32 × (Nat → Int32) × (Nat → Int64)) :=
  (L_Model_letters_4 fu v_size v_text p1 (fun (l2_4x6 : Int32) (l3_4x7 : Int64) => (if (l2_4x6 - p1) ≤ 8 then ((f_Model_word v_words v_kinds v_values 0 l3_4x7).bind (fun t_9 => (some (l2_4x6, t_9.1, t_9.2.1, t_9.2.2)))) else ((f_Model_word v_words v_kinds v_values 9 l3_4x7).bind (fun t_10 => (some (l2_4x6, t_10.1, t_10.2.1, t_10.2.2)))))) fu p1 0)
theorem f_Model_letters_u {fu : Nat} {v_size : Int32} {v_words : Int32} {v_text : Nat → Int32} {v_kinds : Nat → Int32} {v_values : Nat → Int64} {p1 : Int32} {t : Int32 × Int32 × (Nat → Int32) × (Nat → Int64)} (h : f_Model_letters fu v_size v_words v_text v_kinds v_values p1 = some t) : (L_Model_letters_4 fu v_size v_text p1 (fun (l2_4x6 : Int32) (l3_4x7 : Int64) => (if (l2_4x6 - p1) ≤ 8 then ((f_Model_word v_words v_kinds v_values 0 l3_4x7).bind (fun t_9 => (some (l2_4x6, t_9.1, t_9.2.1, t_9.2.2)))) else ((f_Model_word v_words v_kinds v_values 9 l3_4x7).bind (fun t_10 => (some (l2_4x6, t_10.1, t_10.2.1, t_10.2.2)))))) fu p1 0) = some t := h
def L_Model_digits_5 (fu : Nat) (v_size : Int32) (v_text : Nat → Int32) (l1_5 : Int32) (l2_5 : Int32) (k_54 : Int32 → Int64 → Option (Int32 × Int32 × (Nat → Int32) × (Nat → Int64))) : Nat → Int32 → Int64 → Option (Int32 × Int32 × (Nat → Int32) × (Nat → Int64))
  | 0, _, _ => none
  | n + 1, l3_5, l4_5 => ((f_Model_letter v_size v_text l3_5).bind (fun t_1 => ((f_Model_isDigit t_1).bind (fun t_2 => (if t_2 = 0 then (k_54 l3_5 l4_5) else (if 7 ≤ (l3_5 - l1_5) then ((L_Model_digits_5 fu v_size v_text l1_5 l2_5 k_54 n) (l3_5 + 1) l4_5) else ((f_Model_letter v_size v_text l3_5).bind (fun t_5 => ((L_Model_digits_5 fu v_size v_text l1_5 l2_5 k_54 n) (l3_5 + 1) (((10 * l4_5) + ((t_5 : Int32).toInt64)) - 48))))))))))
theorem L_Model_digits_5_z {fu : Nat} {v_size : Int32} {v_text : Nat → Int32} {l1_5 : Int32} {l2_5 : Int32} {k_54 : Int32 → Int64 → Option (Int32 × Int32 × (Nat → Int32) × (Nat → Int64))} {l3_5 : Int32} {l4_5 : Int64} {t : Int32 × Int32 × (Nat → Int32) × (Nat → Int64)} (h : L_Model_digits_5 fu v_size v_text l1_5 l2_5 k_54 0 l3_5 l4_5 = some t) : False := by cases (show (none : Option (Int32 × Int32 × (Nat → Int32) × (Nat → Int64))) = some t from h)
theorem L_Model_digits_5_u {fu : Nat} {v_size : Int32} {v_text : Nat → Int32} {l1_5 : Int32} {l2_5 : Int32} {k_54 : Int32 → Int64 → Option (Int32 × Int32 × (Nat → Int32) × (Nat → Int64))} {n : Nat} {l3_5 : Int32} {l4_5 : Int64} {t : Int32 × Int32 × (Nat → Int32) × (Nat → Int64)} (h : L_Model_digits_5 fu v_size v_text l1_5 l2_5 k_54 (n + 1) l3_5 l4_5 = some t) : ((f_Model_letter v_size v_text l3_5).bind (fun t_1 => ((f_Model_isDigit t_1).bind (fun t_2 => (if t_2 = 0 then (k_54 l3_5 l4_5) else (if 7 ≤ (l3_5 - l1_5) then ((L_Model_digits_5 fu v_size v_text l1_5 l2_5 k_54 n) (l3_5 + 1) l4_5) else ((f_Model_letter v_size v_text l3_5).bind (fun t_5 => ((L_Model_digits_5 fu v_size v_text l1_5 l2_5 k_54 n) (l3_5 + 1) (((10 * l4_5) + ((t_5 : Int32).toInt64)) - 48)))))))))) = some t := h
def f_Model_digits (fu : Nat) (v_size : Int32) (v_words : Int32) (v_text : Nat → Int32) (v_kinds : Nat → Int32) (v_values : Nat → Int64) (p1 : Int32) (p2 : Int32) : Option (Int32 × Int32 × (Nat → Int32) × (Nat → Int64)) :=
  (L_Model_digits_5 fu v_size v_text p1 p2 (fun (l3_5x6 : Int32) (l4_5x7 : Int64) => (if p2 = 0 then (if (l3_5x6 - p1) ≤ 7 then ((f_Model_word v_words v_kinds v_values 1 l4_5x7).bind (fun t_10 => (some (l3_5x6, t_10.1, t_10.2.1, t_10.2.2)))) else ((f_Model_word v_words v_kinds v_values 1 9999999).bind (fun t_11 => (some (l3_5x6, t_11.1, t_11.2.1, t_11.2.2))))) else (if (l3_5x6 - p1) < 1 then ((f_Model_word v_words v_kinds v_values 2 ((-1))).bind (fun t_13 => (some (l3_5x6, t_13.1, t_13.2.1, t_13.2.2)))) else (if (l3_5x6 - p1) ≤ 2 then ((f_Model_word v_words v_kinds v_values 2 l4_5x7).bind (fun t_15 => (some (l3_5x6, t_15.1, t_15.2.1, t_15.2.2)))) else ((f_Model_word v_words v_kinds v_values 2 ((-1))).bind (fun t_16 => (some (l3_5x6, t_16.1, t_16.2.1, t_16.2.2)))))))) fu p1 0)
theorem f_Model_digits_u {fu : Nat} {v_size : Int32} {v_words : Int32} {v_text : Nat → Int32} {v_kinds : Nat → Int32} {v_values : Nat → Int64} {p1 : Int32} {p2 : Int32} {t : Int32 × Int32 × (Nat → Int32) × (Nat → Int64)} (h : f_Model_digits fu v_size v_words v_text v_kinds v_values p1 p2 = some t) : (L_Model_digits_5 fu v_size v_text p1 p2 (fun (l3_5x6 : Int32) (l4_5x7 : Int64) => (if p2 = 0 then (if (l3_5x6 - p1) ≤ 7 then ((f_Model_word v_words v_kinds v_values 1 l4_5x7).bind (fun t_10 => (some (l3_5x6, t_10.1, t_10.2.1, t_10.2.2)))) else ((f_Model_word v_words v_kinds v_values 1 9999999).bind (fun t_11 => (some (l3_5x6, t_11.1, t_11.2.1, t_11.2.2))))) else (if (l3_5x6 - p1) < 1 then ((f_Model_word v_words v_kinds v_values 2 ((-1))).bind (fun t_13 => (some (l3_5x6, t_13.1, t_13.2.1, t_13.2.2)))) else (if (l3_5x6 - p1) ≤ 2 then ((f_Model_word v_words v_kinds v_values 2 l4_5x7).bind (fun t_15 => (some (l3_5x6, t_15.1, t_15.2.1, t_15.2.2)))) else ((f_Model_word v_words v_kinds v_values 2 ((-1))).bind (fun t_16 => (some (l3_5x6, t_16.1, t_16.2.1, t_16.2.2)))))))) fu p1 0) = some t := h
def J_Model_sign_97 (v_words : Int32) (v_kinds : Nat → Int32) (v_values : Nat → Int64) (l1_j97 : Int32) (l2_j97 : Int32) (l3_j97 : Int32) (s1_j97 : Int32) : Option (Int32 × Int32 × (Nat → Int32) × (Nat → Int64)) :=
  (if l3_j97 = 0 then ((f_Model_word v_words v_kinds v_values s1_j97 ((l2_j97 : Int32).toInt64)).bind (fun t_3 => (if l3_j97 = 0 then (some (l1_j97 + 1, t_3.1, t_3.2.1, t_3.2.2)) else (some (l1_j97 + 2, t_3.1, t_3.2.1, t_3.2.2))))) else ((f_Model_word v_words v_kinds v_values s1_j97 (((l2_j97 : Int32).toInt64) + 256)).bind (fun t_5 => (if l3_j97 = 0 then (some (l1_j97 + 1, t_5.1, t_5.2.1, t_5.2.2)) else (some (l1_j97 + 2, t_5.1, t_5.2.1, t_5.2.2))))))
theorem J_Model_sign_97_u {v_words : Int32} {v_kinds : Nat → Int32} {v_values : Nat → Int64} {l1_j97 : Int32} {l2_j97 : Int32} {l3_j97 : Int32} {s1_j97 : Int32} {t : Int32 × Int32 × (Nat → Int32) × (Nat → Int64)} (h : J_Model_sign_97 v_words v_kinds v_values l1_j97 l2_j97 l3_j97 s1_j97 = some t) : (if l3_j97 = 0 then ((f_Model_word v_words v_kinds v_values s1_j97 ((l2_j97 : Int32).toInt64)).bind (fun t_3 => (if l3_j97 = 0 then (some (l1_j97 + 1, t_3.1, t_3.2.1, t_3.2.2)) else (some (l1_j97 + 2, t_3.1, t_3.2.1, t_3.2.2))))) else ((f_Model_word v_words v_kinds v_values s1_j97 (((l2_j97 : Int32).toInt64) + 256)).bind (fun t_5 => (if l3_j97 = 0 then (some (l1_j97 + 1, t_5.1, t_5.2.1, t_5.2.2)) else (some (l1_j97 + 2, t_5.1, t_5.2.1, t_5.2.2)))))) = some t := h
def J_Model_sign_83 (v_words : Int32) (v_kinds : Nat → Int32) (v_values : Nat → Int64) (l1_j83 : Int32) (l2_j83 : Int32) (l3_j83 : Int32) (s0_j83 : Int32) : Option (Int32 × Int32 × (Nat → Int32) × (Nat → Int64)) :=
  (if s0_j83 = 0 then (J_Model_sign_97 v_words v_kinds v_values l1_j83 l2_j83 l3_j83 9) else (J_Model_sign_97 v_words v_kinds v_values l1_j83 l2_j83 l3_j83 3))
theorem J_Model_sign_83_u {v_words : Int32} {v_kinds : Nat → Int32} {v_values : Nat → Int64} {l1_j83 : Int32} {l2_j83 : Int32} {l3_j83 : Int32} {s0_j83 : Int32} {t : Int32 × Int32 × (Nat → Int32) × (Nat → Int64)} (h : J_Model_sign_83 v_words v_kinds v_values l1_j83 l2_j83 l3_j83 s0_j83 = some t) : (if s0_j83 = 0 then (J_Model_sign_97 v_words v_kinds v_values l1_j83 l2_j83 l3_j83 9) else (J_Model_sign_97 v_words v_kinds v_values l1_j83 l2_j83 l3_j83 3)) = some t := h
def J_Model_sign_35 (v_words : Int32) (v_kinds : Nat → Int32) (v_values : Nat → Int64) (l1_j35 : Int32) (l2_j35 : Int32) (s0_j35 : Int32) : Option (Int32 × Int32 × (Nat → Int32) × (Nat → Int64)) :=
  (if l2_j35 = 58 then (J_Model_sign_83 v_words v_kinds v_values l1_j35 l2_j35 s0_j35 1) else (if l2_j35 = 38 then (J_Model_sign_83 v_words v_kinds v_values l1_j35 l2_j35 s0_j35 1) else (if l2_j35 = 59 then (J_Model_sign_83 v_words v_kinds v_values l1_j35 l2_j35 s0_j35 1) else (if l2_j35 = 45 then (J_Model_sign_83 v_words v_kinds v_values l1_j35 l2_j35 s0_j35 1) else (if l2_j35 = 60 then (J_Model_sign_83 v_words v_kinds v_values l1_j35 l2_j35 s0_j35 1) else (if l2_j35 = 61 then (J_Model_sign_83 v_words v_kinds v_values l1_j35 l2_j35 s0_j35 1) else (if l2_j35 = 62 then (J_Model_sign_83 v_words v_kinds v_values l1_j35 l2_j35 s0_j35 1) else (J_Model_sign_83 v_words v_kinds v_values l1_j35 l2_j35 s0_j35 0))))))))
theorem J_Model_sign_35_u {v_words : Int32} {v_kinds : Nat → Int32} {v_values : Nat → Int64} {l1_j35 : Int32} {l2_j35 : Int32} {s0_j35 : Int32} {t : Int32 × Int32 × (Nat → Int32) × (Nat → Int64)} (h : J_Model_sign_35 v_words v_kinds v_values l1_j35 l2_j35 s0_j35 = some t) : (if l2_j35 = 58 then (J_Model_sign_83 v_words v_kinds v_values l1_j35 l2_j35 s0_j35 1) else (if l2_j35 = 38 then (J_Model_sign_83 v_words v_kinds v_values l1_j35 l2_j35 s0_j35 1) else (if l2_j35 = 59 then (J_Model_sign_83 v_words v_kinds v_values l1_j35 l2_j35 s0_j35 1) else (if l2_j35 = 45 then (J_Model_sign_83 v_words v_kinds v_values l1_j35 l2_j35 s0_j35 1) else (if l2_j35 = 60 then (J_Model_sign_83 v_words v_kinds v_values l1_j35 l2_j35 s0_j35 1) else (if l2_j35 = 61 then (J_Model_sign_83 v_words v_kinds v_values l1_j35 l2_j35 s0_j35 1) else (if l2_j35 = 62 then (J_Model_sign_83 v_words v_kinds v_values l1_j35 l2_j35 s0_j35 1) else (J_Model_sign_83 v_words v_kinds v_values l1_j35 l2_j35 s0_j35 0)))))))) = some t := h
def f_Model_sign (v_size : Int32) (v_words : Int32) (v_text : Nat → Int32) (v_kinds : Nat → Int32) (v_values : Nat → Int64) (p1 : Int32) : Option (Int32 × Int32 × (Nat → Int32) × (Nat → Int64)) :=
  ((f_Model_letter v_size v_text p1).bind (fun t_1 => (if t_1 = 60 then ((f_Model_letter v_size v_text (p1 + 1)).bind (fun t_16 => (if t_16 = 61 then (J_Model_sign_35 v_words v_kinds v_values p1 t_1 1) else (J_Model_sign_35 v_words v_kinds v_values p1 t_1 0)))) else (if t_1 = 62 then ((f_Model_letter v_size v_text (p1 + 1)).bind (fun t_19 => (if t_19 = 61 then (J_Model_sign_35 v_words v_kinds v_values p1 t_1 1) else (J_Model_sign_35 v_words v_kinds v_values p1 t_1 0)))) else (J_Model_sign_35 v_words v_kinds v_values p1 t_1 0)))))
theorem f_Model_sign_u {v_size : Int32} {v_words : Int32} {v_text : Nat → Int32} {v_kinds : Nat → Int32} {v_values : Nat → Int64} {p1 : Int32} {t : Int32 × Int32 × (Nat → Int32) × (Nat → Int64)} (h : f_Model_sign v_size v_words v_text v_kinds v_values p1 = some t) : ((f_Model_letter v_size v_text p1).bind (fun t_1 => (if t_1 = 60 then ((f_Model_letter v_size v_text (p1 + 1)).bind (fun t_16 => (if t_16 = 61 then (J_Model_sign_35 v_words v_kinds v_values p1 t_1 1) else (J_Model_sign_35 v_words v_kinds v_values p1 t_1 0)))) else (if t_1 = 62 then ((f_Model_letter v_size v_text (p1 + 1)).bind (fun t_19 => (if t_19 = 61 then (J_Model_sign_35 v_words v_kinds v_values p1 t_1 1) else (J_Model_sign_35 v_words v_kinds v_values p1 t_1 0)))) else (J_Model_sign_35 v_words v_kinds v_values p1 t_1 0))))) = some t := h
def rm_Model_trim : Room := { frames := 0, cells := 0, slots := 0, locals := 0 }
set_option maxHeartbeats 4000000 in
set_option maxRecDepth 100000 in
theorem c_Model_trim (l : Launch) (dC : Nat → ClassId) (dI : Nat → Nat → Nat) (cI cL cC : ClassId) (h_this h_rowPoint h_rowMinute h_rowValue h_text h_kinds h_values h_names h_testCounts h_minutes h_costs h_sorts h_firsts h_seconds h_relations h_numbers h_last h_before h_heldCounts h_streaks h_faultRule h_faultBegin h_faultEnd h_order h_left h_brings : Nat) (sz : Nat) (v_thrown : Int32) (v_rows : Int32) (v_size : Int32) (v_words : Int32) (v_at : Int32) (v_ruleCount : Int32) (v_ran : Int32) (v_faults : Int32) (v_leftCount : Int32) (p1 : Int32) (t : Int32 × Int32 × Int32) (hf : f_Model_trim v_thrown v_size p1 = some t) : Met l y_Model_trim (Cond.code y_Model_trim prog_9_method_10_code 2 (some .int) :: xT) rm_Model_trim (va_Pc [.ref h_this, .int p1] (xP (dC, dI) (xTy cI cL cC) [(h_this, .inr (7, [.int v_thrown, .int v_rows, .ref h_rowPoint, .ref h_rowMinute, .ref h_rowValue, .ref h_text, .int v_size, .ref h_kinds, .ref h_values, .int v_words, .int v_at, .ref h_names, .ref h_testCounts, .ref h_minutes, .ref h_costs, .ref h_sorts, .ref h_firsts, .ref h_seconds, .ref h_relations, .ref h_numbers, .int v_ruleCount, .ref h_last, .ref h_before, .int v_ran, .ref h_heldCounts, .ref h_streaks, .int v_faults, .ref h_faultRule, .ref h_faultBegin, .ref h_faultEnd, .ref h_order, .ref h_left, .int v_leftCount, .ref h_brings]))] sz)) (xQ (dC, dI) [(h_this, .inr (7, [.int t.2.1, .int v_rows, .ref h_rowPoint, .ref h_rowMinute, .ref h_rowValue, .ref h_text, .int t.2.2, .ref h_kinds, .ref h_values, .int v_words, .int v_at, .ref h_names, .ref h_testCounts, .ref h_minutes, .ref h_costs, .ref h_sorts, .ref h_firsts, .ref h_seconds, .ref h_relations, .ref h_numbers, .int v_ruleCount, .ref h_last, .ref h_before, .int v_ran, .ref h_heldCounts, .ref h_streaks, .int v_faults, .ref h_faultRule, .ref h_faultBegin, .ref h_faultEnd, .ref h_order, .ref h_left, .int v_leftCount, .ref h_brings]))] (va_A [(h_this, .inr (7, [.int v_thrown, .int v_rows, .ref h_rowPoint, .ref h_rowMinute, .ref h_rowValue, .ref h_text, .int v_size, .ref h_kinds, .ref h_values, .int v_words, .int v_at, .ref h_names, .ref h_testCounts, .ref h_minutes, .ref h_costs, .ref h_sorts, .ref h_firsts, .ref h_seconds, .ref h_relations, .ref h_numbers, .int v_ruleCount, .ref h_last, .ref h_before, .int v_ran, .ref h_heldCounts, .ref h_streaks, .int v_faults, .ref h_faultRule, .ref h_faultBegin, .ref h_faultEnd, .ref h_order, .ref h_left, .int v_leftCount, .ref h_brings]))] sz) (some (.int t.1))) 0 0 (va_A [(h_this, .inr (7, [.int v_thrown, .int v_rows, .ref h_rowPoint, .ref h_rowMinute, .ref h_rowValue, .ref h_text, .int v_size, .ref h_kinds, .ref h_values, .int v_words, .int v_at, .ref h_names, .ref h_testCounts, .ref h_minutes, .ref h_costs, .ref h_sorts, .ref h_firsts, .ref h_seconds, .ref h_relations, .ref h_numbers, .int v_ruleCount, .ref h_last, .ref h_before, .int v_ran, .ref h_heldCounts, .ref h_streaks, .int v_faults, .ref h_faultRule, .ref h_faultBegin, .ref h_faultEnd, .ref h_order, .ref h_left, .int v_leftCount, .ref h_brings]))] sz) := by
  refine Met.ofW (cc := prog_9_method_10_code) (maxL := 2) (ret := (some .int)) (by decide) rfl ?_
  intro p e s m args below meth c s₁ B hml hv
  obtain ⟨hargs, hsz, hP, hK, hN, hD0⟩ := hv
  have hx := B.exec
  have hb := B.bytes
  have hr := B.returns
  have hT : ∀ w ∈ xT, w.before args s = true := fun w hw => atoms_spec (ws := Cond.code y_Model_trim prog_9_method_10_code 2 (some .int) :: xT) B.pre w (List.mem_cons_of_mem _ hw)
  have hown : s.vm.findClass R_Model = some m.cls := findClass_of_methodNamed B.named
  have hlocks := B.notSynchronized
  subst hsz
  have hD := hD0.self (sz := s.heap.size)
  generalize hAe : va_A [(h_this, .inr (7, [.int v_thrown, .int v_rows, .ref h_rowPoint, .ref h_rowMinute, .ref h_rowValue, .ref h_text, .int v_size, .ref h_kinds, .ref h_values, .int v_words, .int v_at, .ref h_names, .ref h_testCounts, .ref h_minutes, .ref h_costs, .ref h_sorts, .ref h_firsts, .ref h_seconds, .ref h_relations, .ref h_numbers, .int v_ruleCount, .ref h_last, .ref h_before, .int v_ran, .ref h_heldCounts, .ref h_streaks, .int v_faults, .ref h_faultRule, .ref h_faultBegin, .ref h_faultEnd, .ref h_order, .ref h_left, .int v_leftCount, .ref h_brings]))] s.heap.size = A at hD ⊢
  have hA : ∀ q : Nat, s.heap.size ≤ q → A q := fun q h => by rw [← hAe]; exact Or.inr h
  have hS : va_S A s.heap s.heap [] := va_S.rf
  have hP : va_P (dC, dI) vwCl [(h_this, .inr (7, [.int v_thrown, .int v_rows, .ref h_rowPoint, .ref h_rowMinute, .ref h_rowValue, .ref h_text, .int v_size, .ref h_kinds, .ref h_values, .int v_words, .int v_at, .ref h_names, .ref h_testCounts, .ref h_minutes, .ref h_costs, .ref h_sorts, .ref h_firsts, .ref h_seconds, .ref h_relations, .ref h_numbers, .int v_ruleCount, .ref h_last, .ref h_before, .int v_ran, .ref h_heldCounts, .ref h_streaks, .int v_faults, .ref h_faultRule, .ref h_faultBegin, .ref h_faultEnd, .ref h_order, .ref h_left, .int v_leftCount, .ref h_brings]))] s.heap := hP
  have hl := lv_entry ([.ref h_this, .int p1]) (n := 2) (Nat.le_of_ble_eq_true rfl)
  rw [show entryFrame m args 2 = entryFrame m ([.ref h_this, .int p1] : List Value).toArray 2 from by rw [hargs], lg_entry_eq]
  generalize (lg_sl ([.ref h_this, .int p1]) ++ List.replicate (2 - (lg_sl ([.ref h_this, .int p1])).length) Slot.unset).toArray = ls at hl ⊢
  have hl : lv_has ls 2 [(0, .ref h_this), (1, .int p1)] := hl
  obtain ⟨Q, hQ⟩ : ∃ Q, Q = MQ below (xQ (dC, dI) [(h_this, .inr (7, [.int t.2.1, .int v_rows, .ref h_rowPoint, .ref h_rowMinute, .ref h_rowValue, .ref h_text, .int t.2.2, .ref h_kinds, .ref h_values, .int v_words, .int v_at, .ref h_names, .ref h_testCounts, .ref h_minutes, .ref h_costs, .ref h_sorts, .ref h_firsts, .ref h_seconds, .ref h_relations, .ref h_numbers, .int v_ruleCount, .ref h_last, .ref h_before, .int v_ran, .ref h_heldCounts, .ref h_streaks, .int v_faults, .ref h_faultRule, .ref h_faultBegin, .ref h_faultEnd, .ref h_order, .ref h_left, .int v_leftCount, .ref h_brings]))] A (some (.int t.1))) args s 0 0 A := ⟨_, rfl⟩
  rw [← hQ]
  show W p l e rm_Model_trim s m args below meth c s.heap [] 0 0 Q _
  obtain ⟨H, hH⟩ : ∃ H, H = s.heap := ⟨_, rfl⟩
  obtain ⟨locs, hlocs⟩ : ∃ L : List Loc, L = [] := ⟨_, rfl⟩
  rw [← hlocs] at hS ⊢
  have hS : va_S A s.heap H locs := by rw [hH]; exact hS
  rw [← hH] at hP ⊢
  replace hf := f_Model_trim_u hf
  refine lv_aload_n hx hb d_Model_trim_0 rfl (lv_at hl 0 rfl) ?_
  refine lv_iload_n hx hb d_Model_trim_1 rfl (lv_at hl 1 rfl) ?_
  have jn_18 : ∀ (s1_j18 : Int32) (H : Heap) (locs : List Loc) (ls : Array Slot), J_Model_trim_18 v_thrown v_size p1 s1_j18 = some t → va_P (dC, dI) vwCl [(h_this, .inr (7, [.int v_thrown, .int v_rows, .ref h_rowPoint, .ref h_rowMinute, .ref h_rowValue, .ref h_text, .int v_size, .ref h_kinds, .ref h_values, .int v_words, .int v_at, .ref h_names, .ref h_testCounts, .ref h_minutes, .ref h_costs, .ref h_sorts, .ref h_firsts, .ref h_seconds, .ref h_relations, .ref h_numbers, .int v_ruleCount, .ref h_last, .ref h_before, .int v_ran, .ref h_heldCounts, .ref h_streaks, .int v_faults, .ref h_faultRule, .ref h_faultBegin, .ref h_faultEnd, .ref h_order, .ref h_left, .int v_leftCount, .ref h_brings]))] H → va_D A [(h_this, .inr (7, [.int v_thrown, .int v_rows, .ref h_rowPoint, .ref h_rowMinute, .ref h_rowValue, .ref h_text, .int v_size, .ref h_kinds, .ref h_values, .int v_words, .int v_at, .ref h_names, .ref h_testCounts, .ref h_minutes, .ref h_costs, .ref h_sorts, .ref h_firsts, .ref h_seconds, .ref h_relations, .ref h_numbers, .int v_ruleCount, .ref h_last, .ref h_before, .int v_ran, .ref h_heldCounts, .ref h_streaks, .int v_faults, .ref h_faultRule, .ref h_faultBegin, .ref h_faultEnd, .ref h_order, .ref h_left, .int v_leftCount, .ref h_brings]))] → va_S A s.heap H locs → lv_has ls 2 [(0, .ref h_this), (1, .int p1)] → W p l e rm_Model_trim s m args below meth c H locs 0 0 Q (F0 m 18 ls [.int s1_j18, .ref h_this]) := by
    intro s1_j18 H locs ls hf hP hD hS hl
    replace hf := J_Model_trim_18_u hf
    refine va_put (D := (dC, dI)) (ci := 7) (v := .int s1_j18) (ty := .int) (C := R_Model) (T := T_Model) (N := 34) hx hb hT i_Model ty_Model ty_Model_ok n_Model hown hK hP hD hS 0 rfl rfl 0 (by decide) (hT _ kF_Model_86) (fun _ h9 => h9) rfl (by decide +kernel) rfl rfl (Nat.le_of_ble_eq_true rfl) d_Model_trim_18 (fun H locs hP hD hS => ?_)
    have hP : va_P (dC, dI) vwCl [(h_this, .inr (7, [.int s1_j18, .int v_rows, .ref h_rowPoint, .ref h_rowMinute, .ref h_rowValue, .ref h_text, .int v_size, .ref h_kinds, .ref h_values, .int v_words, .int v_at, .ref h_names, .ref h_testCounts, .ref h_minutes, .ref h_costs, .ref h_sorts, .ref h_firsts, .ref h_seconds, .ref h_relations, .ref h_numbers, .int v_ruleCount, .ref h_last, .ref h_before, .int v_ran, .ref h_heldCounts, .ref h_streaks, .int v_faults, .ref h_faultRule, .ref h_faultBegin, .ref h_faultEnd, .ref h_order, .ref h_left, .int v_leftCount, .ref h_brings]))] H := hP
    have hD : va_D A [(h_this, .inr (7, [.int s1_j18, .int v_rows, .ref h_rowPoint, .ref h_rowMinute, .ref h_rowValue, .ref h_text, .int v_size, .ref h_kinds, .ref h_values, .int v_words, .int v_at, .ref h_names, .ref h_testCounts, .ref h_minutes, .ref h_costs, .ref h_sorts, .ref h_firsts, .ref h_seconds, .ref h_relations, .ref h_numbers, .int v_ruleCount, .ref h_last, .ref h_before, .int v_ran, .ref h_heldCounts, .ref h_streaks, .int v_faults, .ref h_faultRule, .ref h_faultBegin, .ref h_faultEnd, .ref h_order, .ref h_left, .int v_leftCount, .ref h_brings]))] := hD
    refine lv_aload_n hx hb d_Model_trim_21 rfl (lv_at hl 0 rfl) ?_
    refine va_get (D := (dC, dI)) (ci := 7) (v := .int s1_j18) (C := R_Model) (T := T_Model) (N := 34) hx hb hT i_Model hown hK hP 0 rfl rfl 0 (by decide) (hT _ kF_Model_86) (fun _ h9 => h9) rfl d_Model_trim_22 ?_
    refine lv_if_le (tgt := 30) hx hb d_Model_trim_25 (by decide) (fun c_1 => ?_) (fun c_1 => ?_)
    · replace hf := o_pos c_1 hf
      refine lv_aload_n hx hb d_Model_trim_30 rfl (lv_at hl 0 rfl) ?_
      refine lv_dup hx hb d_Model_trim_31 rfl ?_
      refine va_get (D := (dC, dI)) (ci := 7) (v := .int v_size) (C := R_Model) (T := T_Model) (N := 34) hx hb hT i_Model hown hK hP 0 rfl rfl 6 (by decide) (hT _ kF_Model_122) (fun _ h9 => h9) rfl d_Model_trim_32 ?_
      refine lv_iload_n hx hb d_Model_trim_35 rfl (lv_at hl 1 rfl) ?_
      refine lv_isub hx hb d_Model_trim_36 ?_
      refine va_put (D := (dC, dI)) (ci := 7) (v := .int (v_size - p1)) (ty := .int) (C := R_Model) (T := T_Model) (N := 34) hx hb hT i_Model ty_Model ty_Model_ok n_Model hown hK hP hD hS 0 rfl rfl 6 (by decide) (hT _ kF_Model_122) (fun _ h9 => h9) rfl (by decide +kernel) rfl rfl (Nat.le_of_ble_eq_true rfl) d_Model_trim_37 (fun H locs hP hD hS => ?_)
      have hP : va_P (dC, dI) vwCl [(h_this, .inr (7, [.int s1_j18, .int v_rows, .ref h_rowPoint, .ref h_rowMinute, .ref h_rowValue, .ref h_text, .int (v_size - p1), .ref h_kinds, .ref h_values, .int v_words, .int v_at, .ref h_names, .ref h_testCounts, .ref h_minutes, .ref h_costs, .ref h_sorts, .ref h_firsts, .ref h_seconds, .ref h_relations, .ref h_numbers, .int v_ruleCount, .ref h_last, .ref h_before, .int v_ran, .ref h_heldCounts, .ref h_streaks, .int v_faults, .ref h_faultRule, .ref h_faultBegin, .ref h_faultEnd, .ref h_order, .ref h_left, .int v_leftCount, .ref h_brings]))] H := hP
      have hD : va_D A [(h_this, .inr (7, [.int s1_j18, .int v_rows, .ref h_rowPoint, .ref h_rowMinute, .ref h_rowValue, .ref h_text, .int (v_size - p1), .ref h_kinds, .ref h_values, .int v_words, .int v_at, .ref h_names, .ref h_testCounts, .ref h_minutes, .ref h_costs, .ref h_sorts, .ref h_firsts, .ref h_seconds, .ref h_relations, .ref h_numbers, .int v_ruleCount, .ref h_last, .ref h_before, .int v_ran, .ref h_heldCounts, .ref h_streaks, .int v_faults, .ref h_faultRule, .ref h_faultBegin, .ref h_faultEnd, .ref h_order, .ref h_left, .int v_leftCount, .ref h_brings]))] := hD
      refine lv_aload_n hx hb d_Model_trim_40 rfl (lv_at hl 0 rfl) ?_
      refine va_get (D := (dC, dI)) (ci := 7) (v := .int (v_size - p1)) (C := R_Model) (T := T_Model) (N := 34) hx hb hT i_Model hown hK hP 0 rfl rfl 6 (by decide) (hT _ kF_Model_122) (fun _ h9 => h9) rfl d_Model_trim_41 ?_
      rw [hQ, ← Option.some.inj hf]
      exact W.iret hx hb hr (fun t9 ht9 hW9 => ⟨rfl, by rw [ht9]; exact hP, hS.F ht9⟩) hS.2.2 d_Model_trim_44
    · replace hf := o_neg c_1 hf
      refine lv_iconst (v := 0) hx hb d_Model_trim_28 (by decide) ?_
      rw [hQ, ← Option.some.inj hf]
      exact W.iret hx hb hr (fun t9 ht9 hW9 => ⟨rfl, by rw [ht9]; exact hP, hS.F ht9⟩) hS.2.2 d_Model_trim_29
  refine lv_if_lt (tgt := 13) hx hb d_Model_trim_2 (by decide) (fun c_2 => ?_) (fun c_2 => ?_)
  · replace hf := o_pos c_2 hf
    refine lv_iconst (v := 1) hx hb d_Model_trim_13 (by decide) ?_
    refine lv_goto (tgt := 18) hx hb d_Model_trim_14 (by decide) ?_
    exact jn_18 1 H locs ls hf hP hD hS (lv_sub hl [0, 1] rfl)
  · replace hf := o_neg c_2 hf
    refine lv_iload_n hx hb d_Model_trim_5 rfl (lv_at hl 1 rfl) ?_
    refine lv_aload_n hx hb d_Model_trim_6 rfl (lv_at hl 0 rfl) ?_
    refine va_get (D := (dC, dI)) (ci := 7) (v := .int v_size) (C := R_Model) (T := T_Model) (N := 34) hx hb hT i_Model hown hK hP 0 rfl rfl 6 (by decide) (hT _ kF_Model_122) (fun _ h9 => h9) rfl d_Model_trim_7 ?_
    refine lv_icmp_le (tgt := 17) hx hb d_Model_trim_10 (by decide) (fun c_3 => ?_) (fun c_3 => ?_)
    · replace hf := o_pos c_3 hf
      refine lv_iconst (v := 0) hx hb d_Model_trim_17 (by decide) ?_
      exact jn_18 0 H locs ls hf hP hD hS (lv_sub hl [0, 1] rfl)
    · replace hf := o_neg c_3 hf
      refine lv_iconst (v := 1) hx hb d_Model_trim_13 (by decide) ?_
      refine lv_goto (tgt := 18) hx hb d_Model_trim_14 (by decide) ?_
      exact jn_18 1 H locs ls hf hP hD hS (lv_sub hl [0, 1] rfl)
def rm_Model_letter : Room := { frames := 0, cells := 0, slots := 0, locals := 0 }
set_option maxHeartbeats 4000000 in
set_option maxRecDepth 100000 in
theorem c_Model_letter (l : Launch) (dC : Nat → ClassId) (dI : Nat → Nat → Nat) (cI cL cC : ClassId) (h_this h_rowPoint h_rowMinute h_rowValue h_text h_kinds h_values h_names h_testCounts h_minutes h_costs h_sorts h_firsts h_seconds h_relations h_numbers h_last h_before h_heldCounts h_streaks h_faultRule h_faultBegin h_faultEnd h_order h_left h_brings : Nat) (sz : Nat) (v_thrown : Int32) (v_rows : Int32) (v_size : Int32) (v_words : Int32) (v_at : Int32) (v_ruleCount : Int32) (v_ran : Int32) (v_faults : Int32) (v_leftCount : Int32) (v_text : Nat → Int32) (p1 : Int32) (t : Int32) (hf : f_Model_letter v_size v_text p1 = some t) : Met l y_Model_letter (Cond.code y_Model_letter prog_9_method_11_code 2 (some .int) :: xT) rm_Model_letter (va_Pc [.ref h_this, .int p1] (xP (dC, dI) (xTy cI cL cC) [(h_this, .inr (7, [.int v_thrown, .int v_rows, .ref h_rowPoint, .ref h_rowMinute, .ref h_rowValue, .ref h_text, .int v_size, .ref h_kinds, .ref h_values, .int v_words, .int v_at, .ref h_names, .ref h_testCounts, .ref h_minutes, .ref h_costs, .ref h_sorts, .ref h_firsts, .ref h_seconds, .ref h_relations, .ref h_numbers, .int v_ruleCount, .ref h_last, .ref h_before, .int v_ran, .ref h_heldCounts, .ref h_streaks, .int v_faults, .ref h_faultRule, .ref h_faultBegin, .ref h_faultEnd, .ref h_order, .ref h_left, .int v_leftCount, .ref h_brings])), (h_text, .inl (cI, 1000, .inl v_text))] sz)) (xQ (dC, dI) [(h_this, .inr (7, [.int v_thrown, .int v_rows, .ref h_rowPoint, .ref h_rowMinute, .ref h_rowValue, .ref h_text, .int v_size, .ref h_kinds, .ref h_values, .int v_words, .int v_at, .ref h_names, .ref h_testCounts, .ref h_minutes, .ref h_costs, .ref h_sorts, .ref h_firsts, .ref h_seconds, .ref h_relations, .ref h_numbers, .int v_ruleCount, .ref h_last, .ref h_before, .int v_ran, .ref h_heldCounts, .ref h_streaks, .int v_faults, .ref h_faultRule, .ref h_faultBegin, .ref h_faultEnd, .ref h_order, .ref h_left, .int v_leftCount, .ref h_brings])), (h_text, .inl (cI, 1000, .inl v_text))] (va_A [(h_this, .inr (7, [.int v_thrown, .int v_rows, .ref h_rowPoint, .ref h_rowMinute, .ref h_rowValue, .ref h_text, .int v_size, .ref h_kinds, .ref h_values, .int v_words, .int v_at, .ref h_names, .ref h_testCounts, .ref h_minutes, .ref h_costs, .ref h_sorts, .ref h_firsts, .ref h_seconds, .ref h_relations, .ref h_numbers, .int v_ruleCount, .ref h_last, .ref h_before, .int v_ran, .ref h_heldCounts, .ref h_streaks, .int v_faults, .ref h_faultRule, .ref h_faultBegin, .ref h_faultEnd, .ref h_order, .ref h_left, .int v_leftCount, .ref h_brings])), (h_text, .inl (cI, 1000, .inl v_text))] sz) (some (.int t))) 0 0 (va_A [(h_this, .inr (7, [.int v_thrown, .int v_rows, .ref h_rowPoint, .ref h_rowMinute, .ref h_rowValue, .ref h_text, .int v_size, .ref h_kinds, .ref h_values, .int v_words, .int v_at, .ref h_names, .ref h_testCounts, .ref h_minutes, .ref h_costs, .ref h_sorts, .ref h_firsts, .ref h_seconds, .ref h_relations, .ref h_numbers, .int v_ruleCount, .ref h_last, .ref h_before, .int v_ran, .ref h_heldCounts, .ref h_streaks, .int v_faults, .ref h_faultRule, .ref h_faultBegin, .ref h_faultEnd, .ref h_order, .ref h_left, .int v_leftCount, .ref h_brings])), (h_text, .inl (cI, 1000, .inl v_text))] sz) := by
  refine Met.ofW (cc := prog_9_method_11_code) (maxL := 2) (ret := (some .int)) (by decide) rfl ?_
  intro p e s m args below meth c s₁ B hml hv
  obtain ⟨hargs, hsz, hP, hK, hN, hD0⟩ := hv
  have hx := B.exec
  have hb := B.bytes
  have hr := B.returns
  have hT : ∀ w ∈ xT, w.before args s = true := fun w hw => atoms_spec (ws := Cond.code y_Model_letter prog_9_method_11_code 2 (some .int) :: xT) B.pre w (List.mem_cons_of_mem _ hw)
  have hown : s.vm.findClass R_Model = some m.cls := findClass_of_methodNamed B.named
  have hlocks := B.notSynchronized
  subst hsz
  have hD := hD0.self (sz := s.heap.size)
  generalize hAe : va_A [(h_this, .inr (7, [.int v_thrown, .int v_rows, .ref h_rowPoint, .ref h_rowMinute, .ref h_rowValue, .ref h_text, .int v_size, .ref h_kinds, .ref h_values, .int v_words, .int v_at, .ref h_names, .ref h_testCounts, .ref h_minutes, .ref h_costs, .ref h_sorts, .ref h_firsts, .ref h_seconds, .ref h_relations, .ref h_numbers, .int v_ruleCount, .ref h_last, .ref h_before, .int v_ran, .ref h_heldCounts, .ref h_streaks, .int v_faults, .ref h_faultRule, .ref h_faultBegin, .ref h_faultEnd, .ref h_order, .ref h_left, .int v_leftCount, .ref h_brings])), (h_text, .inl (cI, 1000, .inl v_text))] s.heap.size = A at hD ⊢
  have hA : ∀ q : Nat, s.heap.size ≤ q → A q := fun q h => by rw [← hAe]; exact Or.inr h
  have hS : va_S A s.heap s.heap [] := va_S.rf
  have hP : va_P (dC, dI) vwCl [(h_this, .inr (7, [.int v_thrown, .int v_rows, .ref h_rowPoint, .ref h_rowMinute, .ref h_rowValue, .ref h_text, .int v_size, .ref h_kinds, .ref h_values, .int v_words, .int v_at, .ref h_names, .ref h_testCounts, .ref h_minutes, .ref h_costs, .ref h_sorts, .ref h_firsts, .ref h_seconds, .ref h_relations, .ref h_numbers, .int v_ruleCount, .ref h_last, .ref h_before, .int v_ran, .ref h_heldCounts, .ref h_streaks, .int v_faults, .ref h_faultRule, .ref h_faultBegin, .ref h_faultEnd, .ref h_order, .ref h_left, .int v_leftCount, .ref h_brings])), (h_text, .inl (cI, 1000, .inl v_text))] s.heap := hP
  have hl := lv_entry ([.ref h_this, .int p1]) (n := 2) (Nat.le_of_ble_eq_true rfl)
  rw [show entryFrame m args 2 = entryFrame m ([.ref h_this, .int p1] : List Value).toArray 2 from by rw [hargs], lg_entry_eq]
  generalize (lg_sl ([.ref h_this, .int p1]) ++ List.replicate (2 - (lg_sl ([.ref h_this, .int p1])).length) Slot.unset).toArray = ls at hl ⊢
  have hl : lv_has ls 2 [(0, .ref h_this), (1, .int p1)] := hl
  obtain ⟨Q, hQ⟩ : ∃ Q, Q = MQ below (xQ (dC, dI) [(h_this, .inr (7, [.int v_thrown, .int v_rows, .ref h_rowPoint, .ref h_rowMinute, .ref h_rowValue, .ref h_text, .int v_size, .ref h_kinds, .ref h_values, .int v_words, .int v_at, .ref h_names, .ref h_testCounts, .ref h_minutes, .ref h_costs, .ref h_sorts, .ref h_firsts, .ref h_seconds, .ref h_relations, .ref h_numbers, .int v_ruleCount, .ref h_last, .ref h_before, .int v_ran, .ref h_heldCounts, .ref h_streaks, .int v_faults, .ref h_faultRule, .ref h_faultBegin, .ref h_faultEnd, .ref h_order, .ref h_left, .int v_leftCount, .ref h_brings])), (h_text, .inl (cI, 1000, .inl v_text))] A (some (.int t))) args s 0 0 A := ⟨_, rfl⟩
  rw [← hQ]
  show W p l e rm_Model_letter s m args below meth c s.heap [] 0 0 Q _
  obtain ⟨H, hH⟩ : ∃ H, H = s.heap := ⟨_, rfl⟩
  obtain ⟨locs, hlocs⟩ : ∃ L : List Loc, L = [] := ⟨_, rfl⟩
  rw [← hlocs] at hS ⊢
  have hS : va_S A s.heap H locs := by rw [hH]; exact hS
  rw [← hH] at hP ⊢
  replace hf := f_Model_letter_u hf
  refine lv_iload_n hx hb d_Model_letter_0 rfl (lv_at hl 1 rfl) ?_
  refine lv_aload_n hx hb d_Model_letter_1 rfl (lv_at hl 0 rfl) ?_
  refine va_get (D := (dC, dI)) (ci := 7) (v := .int v_size) (C := R_Model) (T := T_Model) (N := 34) hx hb hT i_Model hown hK hP 0 rfl rfl 6 (by decide) (hT _ kF_Model_122) (fun _ h9 => h9) rfl d_Model_letter_2 ?_
  refine lv_icmp_ge (tgt := 17) hx hb d_Model_letter_5 (by decide) (fun c_1 => ?_) (fun c_1 => ?_)
  · replace hf := o_pos c_1 hf
    refine lv_iconst (v := 0) hx hb d_Model_letter_17 (by decide) ?_
    rw [hQ, ← Option.some.inj hf]
    exact W.iret hx hb hr (fun t9 ht9 hW9 => ⟨rfl, by rw [ht9]; exact hP, hS.F ht9⟩) hS.2.2 d_Model_letter_18
  · replace hf := o_neg c_1 hf
    refine lv_aload_n hx hb d_Model_letter_8 rfl (lv_at hl 0 rfl) ?_
    refine va_get (D := (dC, dI)) (ci := 7) (v := .ref h_text) (C := R_Model) (T := T_Model) (N := 34) hx hb hT i_Model hown hK hP 0 rfl rfl 5 (by decide) (hT _ kF_Model_19) (fun _ h9 => h9) rfl d_Model_letter_9 ?_
    refine lv_iload_n hx hb d_Model_letter_12 rfl (lv_at hl 1 rfl) ?_
    obtain ⟨hi_2, hf⟩ := o_in hf
    refine va_iald hx hb hK hP 1 0 rfl rfl hi_2 d_Model_letter_13 ?_
    refine lv_goto (tgt := 18) hx hb d_Model_letter_14 (by decide) ?_
    rw [hQ, ← Option.some.inj hf]
    exact W.iret hx hb hr (fun t9 ht9 hW9 => ⟨rfl, by rw [ht9]; exact hP, hS.F ht9⟩) hS.2.2 d_Model_letter_18
def rm_Model_isSmall : Room := { frames := 0, cells := 0, slots := 0, locals := 0 }
set_option maxHeartbeats 4000000 in
set_option maxRecDepth 100000 in
theorem c_Model_isSmall (l : Launch) (dC : Nat → ClassId) (dI : Nat → Nat → Nat) (cI cL cC : ClassId) (sz : Nat) (p1 : Int32) (t : Int32) (hf : f_Model_isSmall p1 = some t) : Met l y_Model_isSmall (Cond.code y_Model_isSmall prog_9_method_12_code 1 (some .boolean) :: xT) rm_Model_isSmall (va_Pc [.int p1] (xP (dC, dI) (xTy cI cL cC) [] sz)) (xQ (dC, dI) [] (va_A [] sz) (some (.int t))) 0 0 (va_A [] sz) := by
  refine Met.ofW (cc := prog_9_method_12_code) (maxL := 1) (ret := (some .boolean)) (by decide) rfl ?_
  intro p e s m args below meth c s₁ B hml hv
  obtain ⟨hargs, hsz, hP, hK, hN, hD0⟩ := hv
  have hx := B.exec
  have hb := B.bytes
  have hr := B.returns
  have hT : ∀ w ∈ xT, w.before args s = true := fun w hw => atoms_spec (ws := Cond.code y_Model_isSmall prog_9_method_12_code 1 (some .boolean) :: xT) B.pre w (List.mem_cons_of_mem _ hw)
  have hown : s.vm.findClass R_Model = some m.cls := findClass_of_methodNamed B.named
  have hlocks := B.notSynchronized
  subst hsz
  have hD := hD0.self (sz := s.heap.size)
  generalize hAe : va_A [] s.heap.size = A at hD ⊢
  have hA : ∀ q : Nat, s.heap.size ≤ q → A q := fun q h => by rw [← hAe]; exact Or.inr h
  have hS : va_S A s.heap s.heap [] := va_S.rf
  have hP : va_P (dC, dI) vwCl [] s.heap := hP
  have hl := lv_entry ([.int p1]) (n := 1) (Nat.le_of_ble_eq_true rfl)
  rw [show entryFrame m args 1 = entryFrame m ([.int p1] : List Value).toArray 1 from by rw [hargs], lg_entry_eq]
  generalize (lg_sl ([.int p1]) ++ List.replicate (1 - (lg_sl ([.int p1])).length) Slot.unset).toArray = ls at hl ⊢
  have hl : lv_has ls 1 [(0, .int p1)] := hl
  obtain ⟨Q, hQ⟩ : ∃ Q, Q = MQ below (xQ (dC, dI) [] A (some (.int t))) args s 0 0 A := ⟨_, rfl⟩
  rw [← hQ]
  show W p l e rm_Model_isSmall s m args below meth c s.heap [] 0 0 Q _
  obtain ⟨H, hH⟩ : ∃ H, H = s.heap := ⟨_, rfl⟩
  obtain ⟨locs, hlocs⟩ : ∃ L : List Loc, L = [] := ⟨_, rfl⟩
  rw [← hlocs] at hS ⊢
  have hS : va_S A s.heap H locs := by rw [hH]; exact hS
  rw [← hH] at hP ⊢
  replace hf := f_Model_isSmall_u hf
  refine lv_iload_n hx hb d_Model_isSmall_0 rfl (lv_at hl 0 rfl) ?_
  refine lv_bipush (v := 97) hx hb d_Model_isSmall_1 (by decide) ?_
  refine lv_icmp_lt (tgt := 16) hx hb d_Model_isSmall_3 (by decide) (fun c_1 => ?_) (fun c_1 => ?_)
  · replace hf := o_pos c_1 hf
    refine lv_iconst (v := 0) hx hb d_Model_isSmall_16 (by decide) ?_
    rw [hQ, ← Option.some.inj hf]
    exact W.zret (ty := .boolean) hx hb hr rfl (fun t9 ht9 hW9 => ⟨rfl, by rw [ht9]; exact hP, hS.F ht9⟩) hS.2.2 d_Model_isSmall_17
  · replace hf := o_neg c_1 hf
    refine lv_iload_n hx hb d_Model_isSmall_6 rfl (lv_at hl 0 rfl) ?_
    refine lv_bipush (v := 122) hx hb d_Model_isSmall_7 (by decide) ?_
    refine lv_icmp_gt (tgt := 16) hx hb d_Model_isSmall_9 (by decide) (fun c_2 => ?_) (fun c_2 => ?_)
    · replace hf := o_pos c_2 hf
      refine lv_iconst (v := 0) hx hb d_Model_isSmall_16 (by decide) ?_
      rw [hQ, ← Option.some.inj hf]
      exact W.zret (ty := .boolean) hx hb hr rfl (fun t9 ht9 hW9 => ⟨rfl, by rw [ht9]; exact hP, hS.F ht9⟩) hS.2.2 d_Model_isSmall_17
    · replace hf := o_neg c_2 hf
      refine lv_iconst (v := 1) hx hb d_Model_isSmall_12 (by decide) ?_
      refine lv_goto (tgt := 17) hx hb d_Model_isSmall_13 (by decide) ?_
      rw [hQ, ← Option.some.inj hf]
      exact W.zret (ty := .boolean) hx hb hr rfl (fun t9 ht9 hW9 => ⟨rfl, by rw [ht9]; exact hP, hS.F ht9⟩) hS.2.2 d_Model_isSmall_17
def rm_Model_isDigit : Room := { frames := 0, cells := 0, slots := 0, locals := 0 }
set_option maxHeartbeats 4000000 in
set_option maxRecDepth 100000 in
theorem c_Model_isDigit (l : Launch) (dC : Nat → ClassId) (dI : Nat → Nat → Nat) (cI cL cC : ClassId) (sz : Nat) (p1 : Int32) (t : Int32) (hf : f_Model_isDigit p1 = some t) : Met l y_Model_isDigit (Cond.code y_Model_isDigit prog_9_method_13_code 1 (some .boolean) :: xT) rm_Model_isDigit (va_Pc [.int p1] (xP (dC, dI) (xTy cI cL cC) [] sz)) (xQ (dC, dI) [] (va_A [] sz) (some (.int t))) 0 0 (va_A [] sz) := by
  refine Met.ofW (cc := prog_9_method_13_code) (maxL := 1) (ret := (some .boolean)) (by decide) rfl ?_
  intro p e s m args below meth c s₁ B hml hv
  obtain ⟨hargs, hsz, hP, hK, hN, hD0⟩ := hv
  have hx := B.exec
  have hb := B.bytes
  have hr := B.returns
  have hT : ∀ w ∈ xT, w.before args s = true := fun w hw => atoms_spec (ws := Cond.code y_Model_isDigit prog_9_method_13_code 1 (some .boolean) :: xT) B.pre w (List.mem_cons_of_mem _ hw)
  have hown : s.vm.findClass R_Model = some m.cls := findClass_of_methodNamed B.named
  have hlocks := B.notSynchronized
  subst hsz
  have hD := hD0.self (sz := s.heap.size)
  generalize hAe : va_A [] s.heap.size = A at hD ⊢
  have hA : ∀ q : Nat, s.heap.size ≤ q → A q := fun q h => by rw [← hAe]; exact Or.inr h
  have hS : va_S A s.heap s.heap [] := va_S.rf
  have hP : va_P (dC, dI) vwCl [] s.heap := hP
  have hl := lv_entry ([.int p1]) (n := 1) (Nat.le_of_ble_eq_true rfl)
  rw [show entryFrame m args 1 = entryFrame m ([.int p1] : List Value).toArray 1 from by rw [hargs], lg_entry_eq]
  generalize (lg_sl ([.int p1]) ++ List.replicate (1 - (lg_sl ([.int p1])).length) Slot.unset).toArray = ls at hl ⊢
  have hl : lv_has ls 1 [(0, .int p1)] := hl
  obtain ⟨Q, hQ⟩ : ∃ Q, Q = MQ below (xQ (dC, dI) [] A (some (.int t))) args s 0 0 A := ⟨_, rfl⟩
  rw [← hQ]
  show W p l e rm_Model_isDigit s m args below meth c s.heap [] 0 0 Q _
  obtain ⟨H, hH⟩ : ∃ H, H = s.heap := ⟨_, rfl⟩
  obtain ⟨locs, hlocs⟩ : ∃ L : List Loc, L = [] := ⟨_, rfl⟩
  rw [← hlocs] at hS ⊢
  have hS : va_S A s.heap H locs := by rw [hH]; exact hS
  rw [← hH] at hP ⊢
  replace hf := f_Model_isDigit_u hf
  refine lv_iload_n hx hb d_Model_isDigit_0 rfl (lv_at hl 0 rfl) ?_
  refine lv_bipush (v := 48) hx hb d_Model_isDigit_1 (by decide) ?_
  refine lv_icmp_lt (tgt := 16) hx hb d_Model_isDigit_3 (by decide) (fun c_1 => ?_) (fun c_1 => ?_)
  · replace hf := o_pos c_1 hf
    refine lv_iconst (v := 0) hx hb d_Model_isDigit_16 (by decide) ?_
    rw [hQ, ← Option.some.inj hf]
    exact W.zret (ty := .boolean) hx hb hr rfl (fun t9 ht9 hW9 => ⟨rfl, by rw [ht9]; exact hP, hS.F ht9⟩) hS.2.2 d_Model_isDigit_17
  · replace hf := o_neg c_1 hf
    refine lv_iload_n hx hb d_Model_isDigit_6 rfl (lv_at hl 0 rfl) ?_
    refine lv_bipush (v := 57) hx hb d_Model_isDigit_7 (by decide) ?_
    refine lv_icmp_gt (tgt := 16) hx hb d_Model_isDigit_9 (by decide) (fun c_2 => ?_) (fun c_2 => ?_)
    · replace hf := o_pos c_2 hf
      refine lv_iconst (v := 0) hx hb d_Model_isDigit_16 (by decide) ?_
      rw [hQ, ← Option.some.inj hf]
      exact W.zret (ty := .boolean) hx hb hr rfl (fun t9 ht9 hW9 => ⟨rfl, by rw [ht9]; exact hP, hS.F ht9⟩) hS.2.2 d_Model_isDigit_17
    · replace hf := o_neg c_2 hf
      refine lv_iconst (v := 1) hx hb d_Model_isDigit_12 (by decide) ?_
      refine lv_goto (tgt := 17) hx hb d_Model_isDigit_13 (by decide) ?_
      rw [hQ, ← Option.some.inj hf]
      exact W.zret (ty := .boolean) hx hb hr rfl (fun t9 ht9 hW9 => ⟨rfl, by rw [ht9]; exact hP, hS.F ht9⟩) hS.2.2 d_Model_isDigit_17
def rm_Model_word : Room := { frames := 0, cells := 0, slots := 0, locals := 0 }
set_option maxHeartbeats 4000000 in
set_option maxRecDepth 100000 in
theorem c_Model_word (l : Launch) (dC : Nat → ClassId) (dI : Nat → Nat → Nat) (cI cL cC : ClassId) (h_this h_rowPoint h_rowMinute h_rowValue h_text h_kinds h_values h_names h_testCounts h_minutes h_costs h_sorts h_firsts h_seconds h_relations h_numbers h_last h_before h_heldCounts h_streaks h_faultRule h_faultBegin h_faultEnd h_order h_left h_brings : Nat) (sz : Nat) (v_thrown : Int32) (v_rows : Int32) (v_size : Int32) (v_words : Int32) (v_at : Int32) (v_ruleCount : Int32) (v_ran : Int32) (v_faults : Int32) (v_leftCount : Int32) (v_kinds : Nat → Int32) (v_values : Nat → Int64) (p1 : Int32) (p2 : Int64) (t : Int32 × (Nat → Int32) × (Nat → Int64)) (hf : f_Model_word v_words v_kinds v_values p1 p2 = some t) : Met l y_Model_word (Cond.code y_Model_word prog_9_method_14_code 4 none :: xT) rm_Model_word (va_Pc [.ref h_this, .int p1, .long p2] (xP (dC, dI) (xTy cI cL cC) [(h_this, .inr (7, [.int v_thrown, .int v_rows, .ref h_rowPoint, .ref h_rowMinute, .ref h_rowValue, .ref h_text, .int v_size, .ref h_kinds, .ref h_values, .int v_words, .int v_at, .ref h_names, .ref h_testCounts, .ref h_minutes, .ref h_costs, .ref h_sorts, .ref h_firsts, .ref h_seconds, .ref h_relations, .ref h_numbers, .int v_ruleCount, .ref h_last, .ref h_before, .int v_ran, .ref h_heldCounts, .ref h_streaks, .int v_faults, .ref h_faultRule, .ref h_faultBegin, .ref h_faultEnd, .ref h_order, .ref h_left, .int v_leftCount, .ref h_brings])), (h_kinds, .inl (cI, 1000, .inl v_kinds)), (h_values, .inl (cL, 1000, .inr (.inl v_values)))] sz)) (xQ (dC, dI) [(h_this, .inr (7, [.int v_thrown, .int v_rows, .ref h_rowPoint, .ref h_rowMinute, .ref h_rowValue, .ref h_text, .int v_size, .ref h_kinds, .ref h_values, .int t.1, .int v_at, .ref h_names, .ref h_testCounts, .ref h_minutes, .ref h_costs, .ref h_sorts, .ref h_firsts, .ref h_seconds, .ref h_relations, .ref h_numbers, .int v_ruleCount, .ref h_last, .ref h_before, .int v_ran, .ref h_heldCounts, .ref h_streaks, .int v_faults, .ref h_faultRule, .ref h_faultBegin, .ref h_faultEnd, .ref h_order, .ref h_left, .int v_leftCount, .ref h_brings])), (h_kinds, .inl (cI, 1000, .inl t.2.1)), (h_values, .inl (cL, 1000, .inr (.inl t.2.2)))] (va_A [(h_this, .inr (7, [.int v_thrown, .int v_rows, .ref h_rowPoint, .ref h_rowMinute, .ref h_rowValue, .ref h_text, .int v_size, .ref h_kinds, .ref h_values, .int v_words, .int v_at, .ref h_names, .ref h_testCounts, .ref h_minutes, .ref h_costs, .ref h_sorts, .ref h_firsts, .ref h_seconds, .ref h_relations, .ref h_numbers, .int v_ruleCount, .ref h_last, .ref h_before, .int v_ran, .ref h_heldCounts, .ref h_streaks, .int v_faults, .ref h_faultRule, .ref h_faultBegin, .ref h_faultEnd, .ref h_order, .ref h_left, .int v_leftCount, .ref h_brings])), (h_kinds, .inl (cI, 1000, .inl v_kinds)), (h_values, .inl (cL, 1000, .inr (.inl v_values)))] sz) (none)) 0 0 (va_A [(h_this, .inr (7, [.int v_thrown, .int v_rows, .ref h_rowPoint, .ref h_rowMinute, .ref h_rowValue, .ref h_text, .int v_size, .ref h_kinds, .ref h_values, .int v_words, .int v_at, .ref h_names, .ref h_testCounts, .ref h_minutes, .ref h_costs, .ref h_sorts, .ref h_firsts, .ref h_seconds, .ref h_relations, .ref h_numbers, .int v_ruleCount, .ref h_last, .ref h_before, .int v_ran, .ref h_heldCounts, .ref h_streaks, .int v_faults, .ref h_faultRule, .ref h_faultBegin, .ref h_faultEnd, .ref h_order, .ref h_left, .int v_leftCount, .ref h_brings])), (h_kinds, .inl (cI, 1000, .inl v_kinds)), (h_values, .inl (cL, 1000, .inr (.inl v_values)))] sz) := by
  refine Met.ofW (cc := prog_9_method_14_code) (maxL := 4) (ret := none) (by decide) rfl ?_
  intro p e s m args below meth c s₁ B hml hv
  obtain ⟨hargs, hsz, hP, hK, hN, hD0⟩ := hv
  have hx := B.exec
  have hb := B.bytes
  have hr := B.returns
  have hT : ∀ w ∈ xT, w.before args s = true := fun w hw => atoms_spec (ws := Cond.code y_Model_word prog_9_method_14_code 4 none :: xT) B.pre w (List.mem_cons_of_mem _ hw)
  have hown : s.vm.findClass R_Model = some m.cls := findClass_of_methodNamed B.named
  have hlocks := B.notSynchronized
  subst hsz
  have hD := hD0.self (sz := s.heap.size)
  generalize hAe : va_A [(h_this, .inr (7, [.int v_thrown, .int v_rows, .ref h_rowPoint, .ref h_rowMinute, .ref h_rowValue, .ref h_text, .int v_size, .ref h_kinds, .ref h_values, .int v_words, .int v_at, .ref h_names, .ref h_testCounts, .ref h_minutes, .ref h_costs, .ref h_sorts, .ref h_firsts, .ref h_seconds, .ref h_relations, .ref h_numbers, .int v_ruleCount, .ref h_last, .ref h_before, .int v_ran, .ref h_heldCounts, .ref h_streaks, .int v_faults, .ref h_faultRule, .ref h_faultBegin, .ref h_faultEnd, .ref h_order, .ref h_left, .int v_leftCount, .ref h_brings])), (h_kinds, .inl (cI, 1000, .inl v_kinds)), (h_values, .inl (cL, 1000, .inr (.inl v_values)))] s.heap.size = A at hD ⊢
  have hA : ∀ q : Nat, s.heap.size ≤ q → A q := fun q h => by rw [← hAe]; exact Or.inr h
  have hS : va_S A s.heap s.heap [] := va_S.rf
  have hP : va_P (dC, dI) vwCl [(h_this, .inr (7, [.int v_thrown, .int v_rows, .ref h_rowPoint, .ref h_rowMinute, .ref h_rowValue, .ref h_text, .int v_size, .ref h_kinds, .ref h_values, .int v_words, .int v_at, .ref h_names, .ref h_testCounts, .ref h_minutes, .ref h_costs, .ref h_sorts, .ref h_firsts, .ref h_seconds, .ref h_relations, .ref h_numbers, .int v_ruleCount, .ref h_last, .ref h_before, .int v_ran, .ref h_heldCounts, .ref h_streaks, .int v_faults, .ref h_faultRule, .ref h_faultBegin, .ref h_faultEnd, .ref h_order, .ref h_left, .int v_leftCount, .ref h_brings])), (h_kinds, .inl (cI, 1000, .inl v_kinds)), (h_values, .inl (cL, 1000, .inr (.inl v_values)))] s.heap := hP
  have hl := lv_entry ([.ref h_this, .int p1, .long p2]) (n := 4) (Nat.le_of_ble_eq_true rfl)
  rw [show entryFrame m args 4 = entryFrame m ([.ref h_this, .int p1, .long p2] : List Value).toArray 4 from by rw [hargs], lg_entry_eq]
  generalize (lg_sl ([.ref h_this, .int p1, .long p2]) ++ List.replicate (4 - (lg_sl ([.ref h_this, .int p1, .long p2])).length) Slot.unset).toArray = ls at hl ⊢
  have hl : lv_has ls 4 [(0, .ref h_this), (1, .int p1), (2, .long p2)] := hl
  obtain ⟨Q, hQ⟩ : ∃ Q, Q = MQ below (xQ (dC, dI) [(h_this, .inr (7, [.int v_thrown, .int v_rows, .ref h_rowPoint, .ref h_rowMinute, .ref h_rowValue, .ref h_text, .int v_size, .ref h_kinds, .ref h_values, .int t.1, .int v_at, .ref h_names, .ref h_testCounts, .ref h_minutes, .ref h_costs, .ref h_sorts, .ref h_firsts, .ref h_seconds, .ref h_relations, .ref h_numbers, .int v_ruleCount, .ref h_last, .ref h_before, .int v_ran, .ref h_heldCounts, .ref h_streaks, .int v_faults, .ref h_faultRule, .ref h_faultBegin, .ref h_faultEnd, .ref h_order, .ref h_left, .int v_leftCount, .ref h_brings])), (h_kinds, .inl (cI, 1000, .inl t.2.1)), (h_values, .inl (cL, 1000, .inr (.inl t.2.2)))] A (none)) args s 0 0 A := ⟨_, rfl⟩
  rw [← hQ]
  show W p l e rm_Model_word s m args below meth c s.heap [] 0 0 Q _
  obtain ⟨H, hH⟩ : ∃ H, H = s.heap := ⟨_, rfl⟩
  obtain ⟨locs, hlocs⟩ : ∃ L : List Loc, L = [] := ⟨_, rfl⟩
  rw [← hlocs] at hS ⊢
  have hS : va_S A s.heap H locs := by rw [hH]; exact hS
  rw [← hH] at hP ⊢
  replace hf := f_Model_word_u hf
  refine lv_aload_n hx hb d_Model_word_0 rfl (lv_at hl 0 rfl) ?_
  refine va_get (D := (dC, dI)) (ci := 7) (v := .ref h_kinds) (C := R_Model) (T := T_Model) (N := 34) hx hb hT i_Model hown hK hP 0 rfl rfl 7 (by decide) (hT _ kF_Model_22) (fun _ h9 => h9) rfl d_Model_word_1 ?_
  refine lv_aload_n hx hb d_Model_word_4 rfl (lv_at hl 0 rfl) ?_
  refine va_get (D := (dC, dI)) (ci := 7) (v := .int v_words) (C := R_Model) (T := T_Model) (N := 34) hx hb hT i_Model hown hK hP 0 rfl rfl 9 (by decide) (hT _ kF_Model_125) (fun _ h9 => h9) rfl d_Model_word_5 ?_
  refine lv_iload_n hx hb d_Model_word_8 rfl (lv_at hl 1 rfl) ?_
  obtain ⟨hi_1, hf⟩ := o_in hf
  refine va_iast hx hb hK hP hD hS 1 0 rfl rfl hi_1 d_Model_word_9 (fun H locs hP hD hS => ?_)
  have hP : va_P (dC, dI) vwCl [(h_this, .inr (7, [.int v_thrown, .int v_rows, .ref h_rowPoint, .ref h_rowMinute, .ref h_rowValue, .ref h_text, .int v_size, .ref h_kinds, .ref h_values, .int v_words, .int v_at, .ref h_names, .ref h_testCounts, .ref h_minutes, .ref h_costs, .ref h_sorts, .ref h_firsts, .ref h_seconds, .ref h_relations, .ref h_numbers, .int v_ruleCount, .ref h_last, .ref h_before, .int v_ran, .ref h_heldCounts, .ref h_streaks, .int v_faults, .ref h_faultRule, .ref h_faultBegin, .ref h_faultEnd, .ref h_order, .ref h_left, .int v_leftCount, .ref h_brings])), (h_kinds, .inl (cI, 1000, .inl (upd v_kinds (v_words : Int32).toNatClampNeg p1))), (h_values, .inl (cL, 1000, .inr (.inl v_values)))] H := hP
  have hD : va_D A [(h_this, .inr (7, [.int v_thrown, .int v_rows, .ref h_rowPoint, .ref h_rowMinute, .ref h_rowValue, .ref h_text, .int v_size, .ref h_kinds, .ref h_values, .int v_words, .int v_at, .ref h_names, .ref h_testCounts, .ref h_minutes, .ref h_costs, .ref h_sorts, .ref h_firsts, .ref h_seconds, .ref h_relations, .ref h_numbers, .int v_ruleCount, .ref h_last, .ref h_before, .int v_ran, .ref h_heldCounts, .ref h_streaks, .int v_faults, .ref h_faultRule, .ref h_faultBegin, .ref h_faultEnd, .ref h_order, .ref h_left, .int v_leftCount, .ref h_brings])), (h_kinds, .inl (cI, 1000, .inl (upd v_kinds (v_words : Int32).toNatClampNeg p1))), (h_values, .inl (cL, 1000, .inr (.inl v_values)))] := hD
  refine lv_aload_n hx hb d_Model_word_10 rfl (lv_at hl 0 rfl) ?_
  refine va_get (D := (dC, dI)) (ci := 7) (v := .ref h_values) (C := R_Model) (T := T_Model) (N := 34) hx hb hT i_Model hown hK hP 0 rfl rfl 8 (by decide) (hT _ kF_Model_25) (fun _ h9 => h9) rfl d_Model_word_11 ?_
  refine lv_aload_n hx hb d_Model_word_14 rfl (lv_at hl 0 rfl) ?_
  refine va_get (D := (dC, dI)) (ci := 7) (v := .int v_words) (C := R_Model) (T := T_Model) (N := 34) hx hb hT i_Model hown hK hP 0 rfl rfl 9 (by decide) (hT _ kF_Model_125) (fun _ h9 => h9) rfl d_Model_word_15 ?_
  refine lv_lload_n hx hb d_Model_word_18 rfl (lv_at hl 2 rfl) ?_
  obtain ⟨hi_2, hf⟩ := o_in hf
  refine va_last hx hb hK hP hD hS 2 1 rfl rfl hi_2 d_Model_word_19 (fun H locs hP hD hS => ?_)
  have hP : va_P (dC, dI) vwCl [(h_this, .inr (7, [.int v_thrown, .int v_rows, .ref h_rowPoint, .ref h_rowMinute, .ref h_rowValue, .ref h_text, .int v_size, .ref h_kinds, .ref h_values, .int v_words, .int v_at, .ref h_names, .ref h_testCounts, .ref h_minutes, .ref h_costs, .ref h_sorts, .ref h_firsts, .ref h_seconds, .ref h_relations, .ref h_numbers, .int v_ruleCount, .ref h_last, .ref h_before, .int v_ran, .ref h_heldCounts, .ref h_streaks, .int v_faults, .ref h_faultRule, .ref h_faultBegin, .ref h_faultEnd, .ref h_order, .ref h_left, .int v_leftCount, .ref h_brings])), (h_kinds, .inl (cI, 1000, .inl (upd v_kinds (v_words : Int32).toNatClampNeg p1))), (h_values, .inl (cL, 1000, .inr (.inl (vp_updL v_values (v_words : Int32).toNatClampNeg p2))))] H := hP
  have hD : va_D A [(h_this, .inr (7, [.int v_thrown, .int v_rows, .ref h_rowPoint, .ref h_rowMinute, .ref h_rowValue, .ref h_text, .int v_size, .ref h_kinds, .ref h_values, .int v_words, .int v_at, .ref h_names, .ref h_testCounts, .ref h_minutes, .ref h_costs, .ref h_sorts, .ref h_firsts, .ref h_seconds, .ref h_relations, .ref h_numbers, .int v_ruleCount, .ref h_last, .ref h_before, .int v_ran, .ref h_heldCounts, .ref h_streaks, .int v_faults, .ref h_faultRule, .ref h_faultBegin, .ref h_faultEnd, .ref h_order, .ref h_left, .int v_leftCount, .ref h_brings])), (h_kinds, .inl (cI, 1000, .inl (upd v_kinds (v_words : Int32).toNatClampNeg p1))), (h_values, .inl (cL, 1000, .inr (.inl (vp_updL v_values (v_words : Int32).toNatClampNeg p2))))] := hD
  refine lv_aload_n hx hb d_Model_word_20 rfl (lv_at hl 0 rfl) ?_
  refine lv_dup hx hb d_Model_word_21 rfl ?_
  refine va_get (D := (dC, dI)) (ci := 7) (v := .int v_words) (C := R_Model) (T := T_Model) (N := 34) hx hb hT i_Model hown hK hP 0 rfl rfl 9 (by decide) (hT _ kF_Model_125) (fun _ h9 => h9) rfl d_Model_word_22 ?_
  refine lv_iconst (v := 1) hx hb d_Model_word_25 (by decide) ?_
  refine lv_iadd hx hb d_Model_word_26 ?_
  refine va_put (D := (dC, dI)) (ci := 7) (v := .int (v_words + 1)) (ty := .int) (C := R_Model) (T := T_Model) (N := 34) hx hb hT i_Model ty_Model ty_Model_ok n_Model hown hK hP hD hS 0 rfl rfl 9 (by decide) (hT _ kF_Model_125) (fun _ h9 => h9) rfl (by decide +kernel) rfl rfl (Nat.le_of_ble_eq_true rfl) d_Model_word_27 (fun H locs hP hD hS => ?_)
  have hP : va_P (dC, dI) vwCl [(h_this, .inr (7, [.int v_thrown, .int v_rows, .ref h_rowPoint, .ref h_rowMinute, .ref h_rowValue, .ref h_text, .int v_size, .ref h_kinds, .ref h_values, .int (v_words + 1), .int v_at, .ref h_names, .ref h_testCounts, .ref h_minutes, .ref h_costs, .ref h_sorts, .ref h_firsts, .ref h_seconds, .ref h_relations, .ref h_numbers, .int v_ruleCount, .ref h_last, .ref h_before, .int v_ran, .ref h_heldCounts, .ref h_streaks, .int v_faults, .ref h_faultRule, .ref h_faultBegin, .ref h_faultEnd, .ref h_order, .ref h_left, .int v_leftCount, .ref h_brings])), (h_kinds, .inl (cI, 1000, .inl (upd v_kinds (v_words : Int32).toNatClampNeg p1))), (h_values, .inl (cL, 1000, .inr (.inl (vp_updL v_values (v_words : Int32).toNatClampNeg p2))))] H := hP
  have hD : va_D A [(h_this, .inr (7, [.int v_thrown, .int v_rows, .ref h_rowPoint, .ref h_rowMinute, .ref h_rowValue, .ref h_text, .int v_size, .ref h_kinds, .ref h_values, .int (v_words + 1), .int v_at, .ref h_names, .ref h_testCounts, .ref h_minutes, .ref h_costs, .ref h_sorts, .ref h_firsts, .ref h_seconds, .ref h_relations, .ref h_numbers, .int v_ruleCount, .ref h_last, .ref h_before, .int v_ran, .ref h_heldCounts, .ref h_streaks, .int v_faults, .ref h_faultRule, .ref h_faultBegin, .ref h_faultEnd, .ref h_order, .ref h_left, .int v_leftCount, .ref h_brings])), (h_kinds, .inl (cI, 1000, .inl (upd v_kinds (v_words : Int32).toNatClampNeg p1))), (h_values, .inl (cL, 1000, .inr (.inl (vp_updL v_values (v_words : Int32).toNatClampNeg p2))))] := hD
  rw [hQ, ← Option.some.inj hf]
  exact W.vret hx hb hr (fun t9 ht9 hW9 => ⟨rfl, by rw [ht9]; exact hP, hS.F ht9⟩) hS.2.2 d_Model_word_30
def rm_Model_letters : Room := { frames := 1, cells := 0, slots := 0, locals := 23 }
set_option maxHeartbeats 4000000 in
set_option maxRecDepth 100000 in
theorem c_Model_letters (l : Launch) (dC : Nat → ClassId) (dI : Nat → Nat → Nat) (cI cL cC : ClassId) (h_this h_rowPoint h_rowMinute h_rowValue h_text h_kinds h_values h_names h_testCounts h_minutes h_costs h_sorts h_firsts h_seconds h_relations h_numbers h_last h_before h_heldCounts h_streaks h_faultRule h_faultBegin h_faultEnd h_order h_left h_brings : Nat) (sz : Nat) (fu : Nat) (v_thrown : Int32) (v_rows : Int32) (v_size : Int32) (v_words : Int32) (v_at : Int32) (v_ruleCount : Int32) (v_ran : Int32) (v_faults : Int32) (v_leftCount : Int32) (v_text : Nat → Int32) (v_kinds : Nat → Int32) (v_values : Nat → Int64) (p1 : Int32) (t : Int32 × Int32 × (Nat → Int32) × (Nat → Int64)) (hf : f_Model_letters fu v_size v_words v_text v_kinds v_values p1 = some t) : Met l y_Model_letters (Cond.code y_Model_letters prog_9_method_15_code 5 (some .int) :: xT) rm_Model_letters (va_Pc [.ref h_this, .int p1] (xP (dC, dI) (xTy cI cL cC) [(h_this, .inr (7, [.int v_thrown, .int v_rows, .ref h_rowPoint, .ref h_rowMinute, .ref h_rowValue, .ref h_text, .int v_size, .ref h_kinds, .ref h_values, .int v_words, .int v_at, .ref h_names, .ref h_testCounts, .ref h_minutes, .ref h_costs, .ref h_sorts, .ref h_firsts, .ref h_seconds, .ref h_relations, .ref h_numbers, .int v_ruleCount, .ref h_last, .ref h_before, .int v_ran, .ref h_heldCounts, .ref h_streaks, .int v_faults, .ref h_faultRule, .ref h_faultBegin, .ref h_faultEnd, .ref h_order, .ref h_left, .int v_leftCount, .ref h_brings])), (h_text, .inl (cI, 1000, .inl v_text)), (h_kinds, .inl (cI, 1000, .inl v_kinds)), (h_values, .inl (cL, 1000, .inr (.inl v_values)))] sz)) (xQ (dC, dI) [(h_this, .inr (7, [.int v_thrown, .int v_rows, .ref h_rowPoint, .ref h_rowMinute, .ref h_rowValue, .ref h_text, .int v_size, .ref h_kinds, .ref h_values, .int t.2.1, .int v_at, .ref h_names, .ref h_testCounts, .ref h_minutes, .ref h_costs, .ref h_sorts, .ref h_firsts, .ref h_seconds, .ref h_relations, .ref h_numbers, .int v_ruleCount, .ref h_last, .ref h_before, .int v_ran, .ref h_heldCounts, .ref h_streaks, .int v_faults, .ref h_faultRule, .ref h_faultBegin, .ref h_faultEnd, .ref h_order, .ref h_left, .int v_leftCount, .ref h_brings])), (h_text, .inl (cI, 1000, .inl v_text)), (h_kinds, .inl (cI, 1000, .inl t.2.2.1)), (h_values, .inl (cL, 1000, .inr (.inl t.2.2.2)))] (va_A [(h_this, .inr (7, [.int v_thrown, .int v_rows, .ref h_rowPoint, .ref h_rowMinute, .ref h_rowValue, .ref h_text, .int v_size, .ref h_kinds, .ref h_values, .int v_words, .int v_at, .ref h_names, .ref h_testCounts, .ref h_minutes, .ref h_costs, .ref h_sorts, .ref h_firsts, .ref h_seconds, .ref h_relations, .ref h_numbers, .int v_ruleCount, .ref h_last, .ref h_before, .int v_ran, .ref h_heldCounts, .ref h_streaks, .int v_faults, .ref h_faultRule, .ref h_faultBegin, .ref h_faultEnd, .ref h_order, .ref h_left, .int v_leftCount, .ref h_brings])), (h_text, .inl (cI, 1000, .inl v_text)), (h_kinds, .inl (cI, 1000, .inl v_kinds)), (h_values, .inl (cL, 1000, .inr (.inl v_values)))] sz) (some (.int t.1))) 0 0 (va_A [(h_this, .inr (7, [.int v_thrown, .int v_rows, .ref h_rowPoint, .ref h_rowMinute, .ref h_rowValue, .ref h_text, .int v_size, .ref h_kinds, .ref h_values, .int v_words, .int v_at, .ref h_names, .ref h_testCounts, .ref h_minutes, .ref h_costs, .ref h_sorts, .ref h_firsts, .ref h_seconds, .ref h_relations, .ref h_numbers, .int v_ruleCount, .ref h_last, .ref h_before, .int v_ran, .ref h_heldCounts, .ref h_streaks, .int v_faults, .ref h_faultRule, .ref h_faultBegin, .ref h_faultEnd, .ref h_order, .ref h_left, .int v_leftCount, .ref h_brings])), (h_text, .inl (cI, 1000, .inl v_text)), (h_kinds, .inl (cI, 1000, .inl v_kinds)), (h_values, .inl (cL, 1000, .inr (.inl v_values)))] sz) := by
  refine Met.ofW (cc := prog_9_method_15_code) (maxL := 5) (ret := (some .int)) (by decide) rfl ?_
  intro p e s m args below meth c s₁ B hml hv
  obtain ⟨hargs, hsz, hP, hK, hN, hD0⟩ := hv
  have hx := B.exec
  have hb := B.bytes
  have hr := B.returns
  have hT : ∀ w ∈ xT, w.before args s = true := fun w hw => atoms_spec (ws := Cond.code y_Model_letters prog_9_method_15_code 5 (some .int) :: xT) B.pre w (List.mem_cons_of_mem _ hw)
  have hown : s.vm.findClass R_Model = some m.cls := findClass_of_methodNamed B.named
  have hlocks := B.notSynchronized
  subst hsz
  have hD := hD0.self (sz := s.heap.size)
  generalize hAe : va_A [(h_this, .inr (7, [.int v_thrown, .int v_rows, .ref h_rowPoint, .ref h_rowMinute, .ref h_rowValue, .ref h_text, .int v_size, .ref h_kinds, .ref h_values, .int v_words, .int v_at, .ref h_names, .ref h_testCounts, .ref h_minutes, .ref h_costs, .ref h_sorts, .ref h_firsts, .ref h_seconds, .ref h_relations, .ref h_numbers, .int v_ruleCount, .ref h_last, .ref h_before, .int v_ran, .ref h_heldCounts, .ref h_streaks, .int v_faults, .ref h_faultRule, .ref h_faultBegin, .ref h_faultEnd, .ref h_order, .ref h_left, .int v_leftCount, .ref h_brings])), (h_text, .inl (cI, 1000, .inl v_text)), (h_kinds, .inl (cI, 1000, .inl v_kinds)), (h_values, .inl (cL, 1000, .inr (.inl v_values)))] s.heap.size = A at hD ⊢
  have hA : ∀ q : Nat, s.heap.size ≤ q → A q := fun q h => by rw [← hAe]; exact Or.inr h
  have hS : va_S A s.heap s.heap [] := va_S.rf
  have hP : va_P (dC, dI) vwCl [(h_this, .inr (7, [.int v_thrown, .int v_rows, .ref h_rowPoint, .ref h_rowMinute, .ref h_rowValue, .ref h_text, .int v_size, .ref h_kinds, .ref h_values, .int v_words, .int v_at, .ref h_names, .ref h_testCounts, .ref h_minutes, .ref h_costs, .ref h_sorts, .ref h_firsts, .ref h_seconds, .ref h_relations, .ref h_numbers, .int v_ruleCount, .ref h_last, .ref h_before, .int v_ran, .ref h_heldCounts, .ref h_streaks, .int v_faults, .ref h_faultRule, .ref h_faultBegin, .ref h_faultEnd, .ref h_order, .ref h_left, .int v_leftCount, .ref h_brings])), (h_text, .inl (cI, 1000, .inl v_text)), (h_kinds, .inl (cI, 1000, .inl v_kinds)), (h_values, .inl (cL, 1000, .inr (.inl v_values)))] s.heap := hP
  have hl := lv_entry ([.ref h_this, .int p1]) (n := 5) (Nat.le_of_ble_eq_true rfl)
  rw [show entryFrame m args 5 = entryFrame m ([.ref h_this, .int p1] : List Value).toArray 5 from by rw [hargs], lg_entry_eq]
  generalize (lg_sl ([.ref h_this, .int p1]) ++ List.replicate (5 - (lg_sl ([.ref h_this, .int p1])).length) Slot.unset).toArray = ls at hl ⊢
  have hl : lv_has ls 5 [(0, .ref h_this), (1, .int p1)] := hl
  obtain ⟨Q, hQ⟩ : ∃ Q, Q = MQ below (xQ (dC, dI) [(h_this, .inr (7, [.int v_thrown, .int v_rows, .ref h_rowPoint, .ref h_rowMinute, .ref h_rowValue, .ref h_text, .int v_size, .ref h_kinds, .ref h_values, .int t.2.1, .int v_at, .ref h_names, .ref h_testCounts, .ref h_minutes, .ref h_costs, .ref h_sorts, .ref h_firsts, .ref h_seconds, .ref h_relations, .ref h_numbers, .int v_ruleCount, .ref h_last, .ref h_before, .int v_ran, .ref h_heldCounts, .ref h_streaks, .int v_faults, .ref h_faultRule, .ref h_faultBegin, .ref h_faultEnd, .ref h_order, .ref h_left, .int v_leftCount, .ref h_brings])), (h_text, .inl (cI, 1000, .inl v_text)), (h_kinds, .inl (cI, 1000, .inl t.2.2.1)), (h_values, .inl (cL, 1000, .inr (.inl t.2.2.2)))] A (some (.int t.1))) args s 0 0 A := ⟨_, rfl⟩
  rw [← hQ]
  show W p l e rm_Model_letters s m args below meth c s.heap [] 0 0 Q _
  obtain ⟨H, hH⟩ : ∃ H, H = s.heap := ⟨_, rfl⟩
  obtain ⟨locs, hlocs⟩ : ∃ L : List Loc, L = [] := ⟨_, rfl⟩
  rw [← hlocs] at hS ⊢
  have hS : va_S A s.heap H locs := by rw [hH]; exact hS
  rw [← hH] at hP ⊢
  replace hf := f_Model_letters_u hf
  refine lv_iload_n hx hb d_Model_letters_0 rfl (lv_at hl 1 rfl) ?_
  refine lv_istore_n (lv' := [(2, .int p1), (0, .ref h_this), (1, .int p1)]) hx hb d_Model_letters_1 rfl hl (by decide) rfl (fun ls hl => ?_)
  refine lv_lconst (v := 0) hx hb d_Model_letters_2 (by decide) ?_
  refine lv_lstore_n (lv' := [(3, .long 0), (2, .int p1), (0, .ref h_this), (1, .int p1)]) hx hb d_Model_letters_3 rfl hl (by decide) rfl (fun ls hl => ?_)
  have lp_4 : ∀ (k_52 : Int32 → Int64 → Option (Int32 × Int32 × (Nat → Int32) × (Nat → Int64))) (hk_52 : ∀ (l2_4e : Int32) (l3_4e : Int64) (H : Heap) (locs : List Loc) (ls : Array Slot), k_52 l2_4e l3_4e = some t → va_P (dC, dI) vwCl [(h_this, .inr (7, [.int v_thrown, .int v_rows, .ref h_rowPoint, .ref h_rowMinute, .ref h_rowValue, .ref h_text, .int v_size, .ref h_kinds, .ref h_values, .int v_words, .int v_at, .ref h_names, .ref h_testCounts, .ref h_minutes, .ref h_costs, .ref h_sorts, .ref h_firsts, .ref h_seconds, .ref h_relations, .ref h_numbers, .int v_ruleCount, .ref h_last, .ref h_before, .int v_ran, .ref h_heldCounts, .ref h_streaks, .int v_faults, .ref h_faultRule, .ref h_faultBegin, .ref h_faultEnd, .ref h_order, .ref h_left, .int v_leftCount, .ref h_brings])), (h_text, .inl (cI, 1000, .inl v_text)), (h_kinds, .inl (cI, 1000, .inl v_kinds)), (h_values, .inl (cL, 1000, .inr (.inl v_values)))] H → va_D A [(h_this, .inr (7, [.int v_thrown, .int v_rows, .ref h_rowPoint, .ref h_rowMinute, .ref h_rowValue, .ref h_text, .int v_size, .ref h_kinds, .ref h_values, .int v_words, .int v_at, .ref h_names, .ref h_testCounts, .ref h_minutes, .ref h_costs, .ref h_sorts, .ref h_firsts, .ref h_seconds, .ref h_relations, .ref h_numbers, .int v_ruleCount, .ref h_last, .ref h_before, .int v_ran, .ref h_heldCounts, .ref h_streaks, .int v_faults, .ref h_faultRule, .ref h_faultBegin, .ref h_faultEnd, .ref h_order, .ref h_left, .int v_leftCount, .ref h_brings])), (h_text, .inl (cI, 1000, .inl v_text)), (h_kinds, .inl (cI, 1000, .inl v_kinds)), (h_values, .inl (cL, 1000, .inr (.inl v_values)))] → va_S A s.heap H locs → lv_has ls 5 [(0, .ref h_this), (1, .int p1), (2, .int l2_4e), (3, .long l3_4e)] → W p l e rm_Model_letters s m args below meth c H locs 0 0 Q (F0 m 52 ls [])), ∀ (n : Nat) (l2_4 : Int32) (l3_4 : Int64) (H : Heap) (locs : List Loc) (ls : Array Slot), L_Model_letters_4 fu v_size v_text p1 k_52 n l2_4 l3_4 = some t → va_P (dC, dI) vwCl [(h_this, .inr (7, [.int v_thrown, .int v_rows, .ref h_rowPoint, .ref h_rowMinute, .ref h_rowValue, .ref h_text, .int v_size, .ref h_kinds, .ref h_values, .int v_words, .int v_at, .ref h_names, .ref h_testCounts, .ref h_minutes, .ref h_costs, .ref h_sorts, .ref h_firsts, .ref h_seconds, .ref h_relations, .ref h_numbers, .int v_ruleCount, .ref h_last, .ref h_before, .int v_ran, .ref h_heldCounts, .ref h_streaks, .int v_faults, .ref h_faultRule, .ref h_faultBegin, .ref h_faultEnd, .ref h_order, .ref h_left, .int v_leftCount, .ref h_brings])), (h_text, .inl (cI, 1000, .inl v_text)), (h_kinds, .inl (cI, 1000, .inl v_kinds)), (h_values, .inl (cL, 1000, .inr (.inl v_values)))] H → va_D A [(h_this, .inr (7, [.int v_thrown, .int v_rows, .ref h_rowPoint, .ref h_rowMinute, .ref h_rowValue, .ref h_text, .int v_size, .ref h_kinds, .ref h_values, .int v_words, .int v_at, .ref h_names, .ref h_testCounts, .ref h_minutes, .ref h_costs, .ref h_sorts, .ref h_firsts, .ref h_seconds, .ref h_relations, .ref h_numbers, .int v_ruleCount, .ref h_last, .ref h_before, .int v_ran, .ref h_heldCounts, .ref h_streaks, .int v_faults, .ref h_faultRule, .ref h_faultBegin, .ref h_faultEnd, .ref h_order, .ref h_left, .int v_leftCount, .ref h_brings])), (h_text, .inl (cI, 1000, .inl v_text)), (h_kinds, .inl (cI, 1000, .inl v_kinds)), (h_values, .inl (cL, 1000, .inr (.inl v_values)))] → va_S A s.heap H locs → lv_has ls 5 [(0, .ref h_this), (1, .int p1), (2, .int l2_4), (3, .long l3_4)] → W p l e rm_Model_letters s m args below meth c H locs 0 0 Q (F0 m 4 ls []) := by
    intro k_52 hk_52 n
    induction n with
    | zero => intro l2_4 l3_4 H locs ls hf; exact (L_Model_letters_4_z hf).elim
    | succ n ih =>
      intro l2_4 l3_4 H locs ls hf hP hD hS hl
      replace hf := L_Model_letters_4_u hf
      refine lv_aload_n hx hb d_Model_letters_4 rfl (lv_at hl 0 rfl) ?_
      refine lv_iload_n hx hb d_Model_letters_5 rfl (lv_at hl 2 rfl) ?_
      obtain ⟨t_1, hg_1, hf⟩ := o_bind hf
      refine x_virt (w' := [(h_this, .inr (7, [.int v_thrown, .int v_rows, .ref h_rowPoint, .ref h_rowMinute, .ref h_rowValue, .ref h_text, .int v_size, .ref h_kinds, .ref h_values, .int v_words, .int v_at, .ref h_names, .ref h_testCounts, .ref h_minutes, .ref h_costs, .ref h_sorts, .ref h_firsts, .ref h_seconds, .ref h_relations, .ref h_numbers, .int v_ruleCount, .ref h_last, .ref h_before, .int v_ran, .ref h_heldCounts, .ref h_streaks, .int v_faults, .ref h_faultRule, .ref h_faultBegin, .ref h_faultEnd, .ref h_order, .ref h_left, .int v_leftCount, .ref h_brings])), (h_text, .inl (cI, 1000, .inl v_text)), (h_kinds, .inl (cI, 1000, .inl v_kinds)), (h_values, .inl (cL, 1000, .inr (.inl v_values)))]) (As := [.int l2_4]) (rest := []) hx hb hml hl.1 hown hT hK hN hP hD hS hA (c_Model_letter l dC dI cI cL cC h_this h_rowPoint h_rowMinute h_rowValue h_text h_kinds h_values h_names h_testCounts h_minutes h_costs h_sorts h_firsts h_seconds h_relations h_numbers h_last h_before h_heldCounts h_streaks h_faultRule h_faultBegin h_faultEnd h_order h_left h_brings H.size v_thrown v_rows v_size v_words v_at v_ruleCount v_ran v_faults v_leftCount v_text l2_4 t_1 hg_1) kM_Model_128 kI_Model_letter kS_410 kN_Model kC_Model_letter hd_Model_letter rfl 0 rfl rfl rfl ⟨Nat.le_of_ble_eq_true rfl, Nat.le_of_ble_eq_true rfl⟩ rfl rfl ⟨Nat.zero_le _, Nat.zero_le _⟩ rfl (Nat.le_of_ble_eq_true rfl) d_Model_letters_6 [0, 1] rfl rfl [.inr 0, .inr 1, .inl 2, .inl 3] rfl rfl rfl (fun H locs hP hD hS => ?_)
      obtain ⟨t_2, hg_2, hf⟩ := o_bind hf
      refine x_stat (w' := [(h_this, .inr (7, [.int v_thrown, .int v_rows, .ref h_rowPoint, .ref h_rowMinute, .ref h_rowValue, .ref h_text, .int v_size, .ref h_kinds, .ref h_values, .int v_words, .int v_at, .ref h_names, .ref h_testCounts, .ref h_minutes, .ref h_costs, .ref h_sorts, .ref h_firsts, .ref h_seconds, .ref h_relations, .ref h_numbers, .int v_ruleCount, .ref h_last, .ref h_before, .int v_ran, .ref h_heldCounts, .ref h_streaks, .int v_faults, .ref h_faultRule, .ref h_faultBegin, .ref h_faultEnd, .ref h_order, .ref h_left, .int v_leftCount, .ref h_brings])), (h_text, .inl (cI, 1000, .inl v_text)), (h_kinds, .inl (cI, 1000, .inl v_kinds)), (h_values, .inl (cL, 1000, .inr (.inl v_values)))]) (As := [.int t_1]) (rest := []) hx hb hml hl.1 hown hT hK hN hP hD hS hA (c_Model_isSmall l dC dI cI cL cC H.size t_1 t_2 hg_2) kM_Model_132 kT_Model_isSmall kN_Model kC_Model_isSmall hd_Model_isSmall rfl ⟨Nat.le_of_ble_eq_true rfl, Nat.le_of_ble_eq_true rfl⟩ rfl rfl ⟨Nat.zero_le _, Nat.zero_le _⟩ rfl (Nat.le_of_ble_eq_true rfl) d_Model_letters_9 [] rfl rfl [.inl 0, .inl 1, .inl 2, .inl 3] rfl rfl rfl (fun H locs hP hD hS => ?_)
      refine lv_if_eq (tgt := 52) hx hb d_Model_letters_12 (by decide) (fun c_3 => ?_) (fun c_3 => ?_)
      · replace hf := o_pos c_3 hf
        exact hk_52 l2_4 l3_4 H locs ls hf hP hD hS (lv_sub hl [0, 1, 2, 3] rfl)
      · replace hf := o_neg c_3 hf
        refine lv_iload_n hx hb d_Model_letters_15 rfl (lv_at hl 2 rfl) ?_
        refine lv_iload_n hx hb d_Model_letters_16 rfl (lv_at hl 1 rfl) ?_
        refine lv_isub hx hb d_Model_letters_17 ?_
        refine lv_bipush (v := 8) hx hb d_Model_letters_18 (by decide) ?_
        refine lv_icmp_ge (tgt := 44) hx hb d_Model_letters_20 (by decide) (fun c_4 => ?_) (fun c_4 => ?_)
        · replace hf := o_pos c_4 hf
          refine lv_lload_n hx hb d_Model_letters_44 rfl (lv_at hl 3 rfl) ?_
          refine lv_lstore_n (lv' := [(3, .long l3_4), (0, .ref h_this), (1, .int p1), (2, .int l2_4)]) hx hb d_Model_letters_45 rfl hl (by decide) rfl (fun ls hl => ?_)
          refine lv_iinc (v := l2_4 + 1) (lv' := [(2, .int (l2_4 + 1)), (3, .long l3_4), (0, .ref h_this), (1, .int p1)]) hx hb d_Model_letters_46 hl (k := 3) rfl rfl (by decide) rfl (fun ls hl => ?_)
          refine lv_goto (tgt := 4) hx hb d_Model_letters_49 (by decide) ?_
          exact ih (l2_4 + 1) l3_4 H locs ls hf hP hD hS (lv_sub hl [2, 3, 0, 1] rfl)
        · replace hf := o_neg c_4 hf
          refine lv_lload_n hx hb d_Model_letters_23 rfl (lv_at hl 3 rfl) ?_
          refine lv_aload_n hx hb d_Model_letters_24 rfl (lv_at hl 0 rfl) ?_
          refine lv_iload_n hx hb d_Model_letters_25 rfl (lv_at hl 2 rfl) ?_
          obtain ⟨t_5, hg_5, hf⟩ := o_bind hf
          refine x_virt (w' := [(h_this, .inr (7, [.int v_thrown, .int v_rows, .ref h_rowPoint, .ref h_rowMinute, .ref h_rowValue, .ref h_text, .int v_size, .ref h_kinds, .ref h_values, .int v_words, .int v_at, .ref h_names, .ref h_testCounts, .ref h_minutes, .ref h_costs, .ref h_sorts, .ref h_firsts, .ref h_seconds, .ref h_relations, .ref h_numbers, .int v_ruleCount, .ref h_last, .ref h_before, .int v_ran, .ref h_heldCounts, .ref h_streaks, .int v_faults, .ref h_faultRule, .ref h_faultBegin, .ref h_faultEnd, .ref h_order, .ref h_left, .int v_leftCount, .ref h_brings])), (h_text, .inl (cI, 1000, .inl v_text)), (h_kinds, .inl (cI, 1000, .inl v_kinds)), (h_values, .inl (cL, 1000, .inr (.inl v_values)))]) (As := [.int l2_4]) (rest := [.long l3_4]) hx hb hml hl.1 hown hT hK hN hP hD hS hA (c_Model_letter l dC dI cI cL cC h_this h_rowPoint h_rowMinute h_rowValue h_text h_kinds h_values h_names h_testCounts h_minutes h_costs h_sorts h_firsts h_seconds h_relations h_numbers h_last h_before h_heldCounts h_streaks h_faultRule h_faultBegin h_faultEnd h_order h_left h_brings H.size v_thrown v_rows v_size v_words v_at v_ruleCount v_ran v_faults v_leftCount v_text l2_4 t_5 hg_5) kM_Model_128 kI_Model_letter kS_410 kN_Model kC_Model_letter hd_Model_letter rfl 0 rfl rfl rfl ⟨Nat.le_of_ble_eq_true rfl, Nat.le_of_ble_eq_true rfl⟩ rfl rfl ⟨Nat.zero_le _, Nat.zero_le _⟩ rfl (Nat.le_of_ble_eq_true rfl) d_Model_letters_26 [0, 1] rfl rfl [.inr 0, .inr 1, .inl 2, .inl 3] rfl rfl rfl (fun H locs hP hD hS => ?_)
          refine lv_i2l (v := (t_5 : Int32).toInt64) hx hb d_Model_letters_29 rfl ?_
          refine lv_bipush (v := 56) hx hb d_Model_letters_30 (by decide) ?_
          refine lv_bipush (v := 8) hx hb d_Model_letters_32 (by decide) ?_
          refine lv_iload_n hx hb d_Model_letters_34 rfl (lv_at hl 2 rfl) ?_
          refine lv_iload_n hx hb d_Model_letters_35 rfl (lv_at hl 1 rfl) ?_
          refine lv_isub hx hb d_Model_letters_36 ?_
          refine lv_imul hx hb d_Model_letters_37 ?_
          refine lv_isub hx hb d_Model_letters_38 ?_
          refine lv_lshl (v := ((t_5 : Int32).toInt64) <<< ((56 - (8 * (l2_4 - p1)) : Int32).toInt64 &&& 63)) hx hb d_Model_letters_39 rfl ?_
          refine lv_lor hx hb d_Model_letters_40 ?_
          refine lv_goto (tgt := 45) hx hb d_Model_letters_41 (by decide) ?_
          refine lv_lstore_n (lv' := [(3, .long (l3_4 ||| (((t_5 : Int32).toInt64) <<< ((56 - (8 * (l2_4 - p1)) : Int32).toInt64 &&& 63)))), (0, .ref h_this), (1, .int p1), (2, .int l2_4)]) hx hb d_Model_letters_45 rfl hl (by decide) rfl (fun ls hl => ?_)
          refine lv_iinc (v := l2_4 + 1) (lv' := [(2, .int (l2_4 + 1)), (3, .long (l3_4 ||| (((t_5 : Int32).toInt64) <<< ((56 - (8 * (l2_4 - p1)) : Int32).toInt64 &&& 63)))), (0, .ref h_this), (1, .int p1)]) hx hb d_Model_letters_46 hl (k := 3) rfl rfl (by decide) rfl (fun ls hl => ?_)
          refine lv_goto (tgt := 4) hx hb d_Model_letters_49 (by decide) ?_
          exact ih (l2_4 + 1) (l3_4 ||| (((t_5 : Int32).toInt64) <<< ((56 - (8 * (l2_4 - p1)) : Int32).toInt64 &&& 63))) H locs ls hf hP hD hS (lv_sub hl [2, 3, 0, 1] rfl)
  refine lp_4 _ (fun l2_4e l3_4e H locs ls hf hP hD hS hl => ?_) fu p1 0 H locs ls hf hP hD hS (lv_sub hl [2, 3, 1, 0] rfl)
  refine lv_aload_n hx hb d_Model_letters_52 rfl (lv_at hl 0 rfl) ?_
  refine lv_iload_n hx hb d_Model_letters_53 rfl (lv_at hl 2 rfl) ?_
  refine lv_iload_n hx hb d_Model_letters_54 rfl (lv_at hl 1 rfl) ?_
  refine lv_isub hx hb d_Model_letters_55 ?_
  refine lv_bipush (v := 8) hx hb d_Model_letters_56 (by decide) ?_
  refine lv_icmp_le (tgt := 66) hx hb d_Model_letters_58 (by decide) (fun c_6 => ?_) (fun c_6 => ?_)
  · replace hf := o_pos c_6 hf
    refine lv_iconst (v := 0) hx hb d_Model_letters_66 (by decide) ?_
    refine lv_lload_n hx hb d_Model_letters_67 rfl (lv_at hl 3 rfl) ?_
    obtain ⟨t_7, hg_7, hf⟩ := o_bind hf
    refine x_virt (w' := [(h_this, .inr (7, [.int v_thrown, .int v_rows, .ref h_rowPoint, .ref h_rowMinute, .ref h_rowValue, .ref h_text, .int v_size, .ref h_kinds, .ref h_values, .int t_7.1, .int v_at, .ref h_names, .ref h_testCounts, .ref h_minutes, .ref h_costs, .ref h_sorts, .ref h_firsts, .ref h_seconds, .ref h_relations, .ref h_numbers, .int v_ruleCount, .ref h_last, .ref h_before, .int v_ran, .ref h_heldCounts, .ref h_streaks, .int v_faults, .ref h_faultRule, .ref h_faultBegin, .ref h_faultEnd, .ref h_order, .ref h_left, .int v_leftCount, .ref h_brings])), (h_text, .inl (cI, 1000, .inl v_text)), (h_kinds, .inl (cI, 1000, .inl t_7.2.1)), (h_values, .inl (cL, 1000, .inr (.inl t_7.2.2)))]) (As := [.int 0, .long l3_4e]) (rest := []) hx hb hml hl.1 hown hT hK hN hP hD hS hA (c_Model_word l dC dI cI cL cC h_this h_rowPoint h_rowMinute h_rowValue h_text h_kinds h_values h_names h_testCounts h_minutes h_costs h_sorts h_firsts h_seconds h_relations h_numbers h_last h_before h_heldCounts h_streaks h_faultRule h_faultBegin h_faultEnd h_order h_left h_brings H.size v_thrown v_rows v_size v_words v_at v_ruleCount v_ran v_faults v_leftCount v_kinds v_values 0 l3_4e t_7 hg_7) kM_Model_135 kI_Model_word kS_415 kN_Model kC_Model_word hd_Model_word rfl 0 rfl rfl rfl ⟨Nat.le_of_ble_eq_true rfl, Nat.le_of_ble_eq_true rfl⟩ rfl rfl ⟨Nat.zero_le _, Nat.zero_le _⟩ rfl (Nat.le_of_ble_eq_true rfl) d_Model_letters_68 [0, 2, 3] rfl rfl [.inr 0, .inl 1, .inr 1, .inr 2] rfl rfl rfl (fun H locs hP hD hS => ?_)
    refine lv_iload_n hx hb d_Model_letters_71 rfl (lv_at hl 2 rfl) ?_
    rw [hQ, ← Option.some.inj hf]
    exact W.iret hx hb hr (fun t9 ht9 hW9 => ⟨rfl, by rw [ht9]; exact hP, hS.F ht9⟩) hS.2.2 d_Model_letters_72
  · replace hf := o_neg c_6 hf
    refine lv_bipush (v := 9) hx hb d_Model_letters_61 (by decide) ?_
    refine lv_goto (tgt := 67) hx hb d_Model_letters_63 (by decide) ?_
    refine lv_lload_n hx hb d_Model_letters_67 rfl (lv_at hl 3 rfl) ?_
    obtain ⟨t_8, hg_8, hf⟩ := o_bind hf
    refine x_virt (w' := [(h_this, .inr (7, [.int v_thrown, .int v_rows, .ref h_rowPoint, .ref h_rowMinute, .ref h_rowValue, .ref h_text, .int v_size, .ref h_kinds, .ref h_values, .int t_8.1, .int v_at, .ref h_names, .ref h_testCounts, .ref h_minutes, .ref h_costs, .ref h_sorts, .ref h_firsts, .ref h_seconds, .ref h_relations, .ref h_numbers, .int v_ruleCount, .ref h_last, .ref h_before, .int v_ran, .ref h_heldCounts, .ref h_streaks, .int v_faults, .ref h_faultRule, .ref h_faultBegin, .ref h_faultEnd, .ref h_order, .ref h_left, .int v_leftCount, .ref h_brings])), (h_text, .inl (cI, 1000, .inl v_text)), (h_kinds, .inl (cI, 1000, .inl t_8.2.1)), (h_values, .inl (cL, 1000, .inr (.inl t_8.2.2)))]) (As := [.int 9, .long l3_4e]) (rest := []) hx hb hml hl.1 hown hT hK hN hP hD hS hA (c_Model_word l dC dI cI cL cC h_this h_rowPoint h_rowMinute h_rowValue h_text h_kinds h_values h_names h_testCounts h_minutes h_costs h_sorts h_firsts h_seconds h_relations h_numbers h_last h_before h_heldCounts h_streaks h_faultRule h_faultBegin h_faultEnd h_order h_left h_brings H.size v_thrown v_rows v_size v_words v_at v_ruleCount v_ran v_faults v_leftCount v_kinds v_values 9 l3_4e t_8 hg_8) kM_Model_135 kI_Model_word kS_415 kN_Model kC_Model_word hd_Model_word rfl 0 rfl rfl rfl ⟨Nat.le_of_ble_eq_true rfl, Nat.le_of_ble_eq_true rfl⟩ rfl rfl ⟨Nat.zero_le _, Nat.zero_le _⟩ rfl (Nat.le_of_ble_eq_true rfl) d_Model_letters_68 [0, 2, 3] rfl rfl [.inr 0, .inl 1, .inr 1, .inr 2] rfl rfl rfl (fun H locs hP hD hS => ?_)
    refine lv_iload_n hx hb d_Model_letters_71 rfl (lv_at hl 2 rfl) ?_
    rw [hQ, ← Option.some.inj hf]
    exact W.iret hx hb hr (fun t9 ht9 hW9 => ⟨rfl, by rw [ht9]; exact hP, hS.F ht9⟩) hS.2.2 d_Model_letters_72
def rm_Model_digits : Room := { frames := 1, cells := 0, slots := 0, locals := 23 }
set_option maxHeartbeats 4000000 in
set_option maxRecDepth 100000 in
theorem c_Model_digits (l : Launch) (dC : Nat → ClassId) (dI : Nat → Nat → Nat) (cI cL cC : ClassId) (h_this h_rowPoint h_rowMinute h_rowValue h_text h_kinds h_values h_names h_testCounts h_minutes h_costs h_sorts h_firsts h_seconds h_relations h_numbers h_last h_before h_heldCounts h_streaks h_faultRule h_faultBegin h_faultEnd h_order h_left h_brings : Nat) (sz : Nat) (fu : Nat) (v_thrown : Int32) (v_rows : Int32) (v_size : Int32) (v_words : Int32) (v_at : Int32) (v_ruleCount : Int32) (v_ran : Int32) (v_faults : Int32) (v_leftCount : Int32) (v_text : Nat → Int32) (v_kinds : Nat → Int32) (v_values : Nat → Int64) (p1 : Int32) (p2 : Int32) (t : Int32 × Int32 × (Nat → Int32) × (Nat → Int64)) (hf : f_Model_digits fu v_size v_words v_text v_kinds v_values p1 p2 = some t) : Met l y_Model_digits (Cond.code y_Model_digits prog_9_method_16_code 7 (some .int) :: xT) rm_Model_digits (va_Pc [.ref h_this, .int p1, .int p2] (xP (dC, dI) (xTy cI cL cC) [(h_this, .inr (7, [.int v_thrown, .int v_rows, .ref h_rowPoint, .ref h_rowMinute, .ref h_rowValue, .ref h_text, .int v_size, .ref h_kinds, .ref h_values, .int v_words, .int v_at, .ref h_names, .ref h_testCounts, .ref h_minutes, .ref h_costs, .ref h_sorts, .ref h_firsts, .ref h_seconds, .ref h_relations, .ref h_numbers, .int v_ruleCount, .ref h_last, .ref h_before, .int v_ran, .ref h_heldCounts, .ref h_streaks, .int v_faults, .ref h_faultRule, .ref h_faultBegin, .ref h_faultEnd, .ref h_order, .ref h_left, .int v_leftCount, .ref h_brings])), (h_text, .inl (cI, 1000, .inl v_text)), (h_kinds, .inl (cI, 1000, .inl v_kinds)), (h_values, .inl (cL, 1000, .inr (.inl v_values)))] sz)) (xQ (dC, dI) [(h_this, .inr (7, [.int v_thrown, .int v_rows, .ref h_rowPoint, .ref h_rowMinute, .ref h_rowValue, .ref h_text, .int v_size, .ref h_kinds, .ref h_values, .int t.2.1, .int v_at, .ref h_names, .ref h_testCounts, .ref h_minutes, .ref h_costs, .ref h_sorts, .ref h_firsts, .ref h_seconds, .ref h_relations, .ref h_numbers, .int v_ruleCount, .ref h_last, .ref h_before, .int v_ran, .ref h_heldCounts, .ref h_streaks, .int v_faults, .ref h_faultRule, .ref h_faultBegin, .ref h_faultEnd, .ref h_order, .ref h_left, .int v_leftCount, .ref h_brings])), (h_text, .inl (cI, 1000, .inl v_text)), (h_kinds, .inl (cI, 1000, .inl t.2.2.1)), (h_values, .inl (cL, 1000, .inr (.inl t.2.2.2)))] (va_A [(h_this, .inr (7, [.int v_thrown, .int v_rows, .ref h_rowPoint, .ref h_rowMinute, .ref h_rowValue, .ref h_text, .int v_size, .ref h_kinds, .ref h_values, .int v_words, .int v_at, .ref h_names, .ref h_testCounts, .ref h_minutes, .ref h_costs, .ref h_sorts, .ref h_firsts, .ref h_seconds, .ref h_relations, .ref h_numbers, .int v_ruleCount, .ref h_last, .ref h_before, .int v_ran, .ref h_heldCounts, .ref h_streaks, .int v_faults, .ref h_faultRule, .ref h_faultBegin, .ref h_faultEnd, .ref h_order, .ref h_left, .int v_leftCount, .ref h_brings])), (h_text, .inl (cI, 1000, .inl v_text)), (h_kinds, .inl (cI, 1000, .inl v_kinds)), (h_values, .inl (cL, 1000, .inr (.inl v_values)))] sz) (some (.int t.1))) 0 0 (va_A [(h_this, .inr (7, [.int v_thrown, .int v_rows, .ref h_rowPoint, .ref h_rowMinute, .ref h_rowValue, .ref h_text, .int v_size, .ref h_kinds, .ref h_values, .int v_words, .int v_at, .ref h_names, .ref h_testCounts, .ref h_minutes, .ref h_costs, .ref h_sorts, .ref h_firsts, .ref h_seconds, .ref h_relations, .ref h_numbers, .int v_ruleCount, .ref h_last, .ref h_before, .int v_ran, .ref h_heldCounts, .ref h_streaks, .int v_faults, .ref h_faultRule, .ref h_faultBegin, .ref h_faultEnd, .ref h_order, .ref h_left, .int v_leftCount, .ref h_brings])), (h_text, .inl (cI, 1000, .inl v_text)), (h_kinds, .inl (cI, 1000, .inl v_kinds)), (h_values, .inl (cL, 1000, .inr (.inl v_values)))] sz) := by
  refine Met.ofW (cc := prog_9_method_16_code) (maxL := 7) (ret := (some .int)) (by decide) rfl ?_
  intro p e s m args below meth c s₁ B hml hv
  obtain ⟨hargs, hsz, hP, hK, hN, hD0⟩ := hv
  have hx := B.exec
  have hb := B.bytes
  have hr := B.returns
  have hT : ∀ w ∈ xT, w.before args s = true := fun w hw => atoms_spec (ws := Cond.code y_Model_digits prog_9_method_16_code 7 (some .int) :: xT) B.pre w (List.mem_cons_of_mem _ hw)
  have hown : s.vm.findClass R_Model = some m.cls := findClass_of_methodNamed B.named
  have hlocks := B.notSynchronized
  subst hsz
  have hD := hD0.self (sz := s.heap.size)
  generalize hAe : va_A [(h_this, .inr (7, [.int v_thrown, .int v_rows, .ref h_rowPoint, .ref h_rowMinute, .ref h_rowValue, .ref h_text, .int v_size, .ref h_kinds, .ref h_values, .int v_words, .int v_at, .ref h_names, .ref h_testCounts, .ref h_minutes, .ref h_costs, .ref h_sorts, .ref h_firsts, .ref h_seconds, .ref h_relations, .ref h_numbers, .int v_ruleCount, .ref h_last, .ref h_before, .int v_ran, .ref h_heldCounts, .ref h_streaks, .int v_faults, .ref h_faultRule, .ref h_faultBegin, .ref h_faultEnd, .ref h_order, .ref h_left, .int v_leftCount, .ref h_brings])), (h_text, .inl (cI, 1000, .inl v_text)), (h_kinds, .inl (cI, 1000, .inl v_kinds)), (h_values, .inl (cL, 1000, .inr (.inl v_values)))] s.heap.size = A at hD ⊢
  have hA : ∀ q : Nat, s.heap.size ≤ q → A q := fun q h => by rw [← hAe]; exact Or.inr h
  have hS : va_S A s.heap s.heap [] := va_S.rf
  have hP : va_P (dC, dI) vwCl [(h_this, .inr (7, [.int v_thrown, .int v_rows, .ref h_rowPoint, .ref h_rowMinute, .ref h_rowValue, .ref h_text, .int v_size, .ref h_kinds, .ref h_values, .int v_words, .int v_at, .ref h_names, .ref h_testCounts, .ref h_minutes, .ref h_costs, .ref h_sorts, .ref h_firsts, .ref h_seconds, .ref h_relations, .ref h_numbers, .int v_ruleCount, .ref h_last, .ref h_before, .int v_ran, .ref h_heldCounts, .ref h_streaks, .int v_faults, .ref h_faultRule, .ref h_faultBegin, .ref h_faultEnd, .ref h_order, .ref h_left, .int v_leftCount, .ref h_brings])), (h_text, .inl (cI, 1000, .inl v_text)), (h_kinds, .inl (cI, 1000, .inl v_kinds)), (h_values, .inl (cL, 1000, .inr (.inl v_values)))] s.heap := hP
  have hl := lv_entry ([.ref h_this, .int p1, .int p2]) (n := 7) (Nat.le_of_ble_eq_true rfl)
  rw [show entryFrame m args 7 = entryFrame m ([.ref h_this, .int p1, .int p2] : List Value).toArray 7 from by rw [hargs], lg_entry_eq]
  generalize (lg_sl ([.ref h_this, .int p1, .int p2]) ++ List.replicate (7 - (lg_sl ([.ref h_this, .int p1, .int p2])).length) Slot.unset).toArray = ls at hl ⊢
  have hl : lv_has ls 7 [(0, .ref h_this), (1, .int p1), (2, .int p2)] := hl
  obtain ⟨Q, hQ⟩ : ∃ Q, Q = MQ below (xQ (dC, dI) [(h_this, .inr (7, [.int v_thrown, .int v_rows, .ref h_rowPoint, .ref h_rowMinute, .ref h_rowValue, .ref h_text, .int v_size, .ref h_kinds, .ref h_values, .int t.2.1, .int v_at, .ref h_names, .ref h_testCounts, .ref h_minutes, .ref h_costs, .ref h_sorts, .ref h_firsts, .ref h_seconds, .ref h_relations, .ref h_numbers, .int v_ruleCount, .ref h_last, .ref h_before, .int v_ran, .ref h_heldCounts, .ref h_streaks, .int v_faults, .ref h_faultRule, .ref h_faultBegin, .ref h_faultEnd, .ref h_order, .ref h_left, .int v_leftCount, .ref h_brings])), (h_text, .inl (cI, 1000, .inl v_text)), (h_kinds, .inl (cI, 1000, .inl t.2.2.1)), (h_values, .inl (cL, 1000, .inr (.inl t.2.2.2)))] A (some (.int t.1))) args s 0 0 A := ⟨_, rfl⟩
  rw [← hQ]
  show W p l e rm_Model_digits s m args below meth c s.heap [] 0 0 Q _
  obtain ⟨H, hH⟩ : ∃ H, H = s.heap := ⟨_, rfl⟩
  obtain ⟨locs, hlocs⟩ : ∃ L : List Loc, L = [] := ⟨_, rfl⟩
  rw [← hlocs] at hS ⊢
  have hS : va_S A s.heap H locs := by rw [hH]; exact hS
  rw [← hH] at hP ⊢
  replace hf := f_Model_digits_u hf
  refine lv_iload_n hx hb d_Model_digits_0 rfl (lv_at hl 1 rfl) ?_
  refine lv_istore_n (lv' := [(3, .int p1), (0, .ref h_this), (1, .int p1), (2, .int p2)]) hx hb d_Model_digits_1 rfl hl (by decide) rfl (fun ls hl => ?_)
  refine lv_lconst (v := 0) hx hb d_Model_digits_2 (by decide) ?_
  refine lv_lstore (lv' := [(4, .long 0), (3, .int p1), (0, .ref h_this), (1, .int p1), (2, .int p2)]) hx hb d_Model_digits_3 hl (by decide) rfl (fun ls hl => ?_)
  have lp_5 : ∀ (k_54 : Int32 → Int64 → Option (Int32 × Int32 × (Nat → Int32) × (Nat → Int64))) (hk_54 : ∀ (l3_5e : Int32) (l4_5e : Int64) (H : Heap) (locs : List Loc) (ls : Array Slot), k_54 l3_5e l4_5e = some t → va_P (dC, dI) vwCl [(h_this, .inr (7, [.int v_thrown, .int v_rows, .ref h_rowPoint, .ref h_rowMinute, .ref h_rowValue, .ref h_text, .int v_size, .ref h_kinds, .ref h_values, .int v_words, .int v_at, .ref h_names, .ref h_testCounts, .ref h_minutes, .ref h_costs, .ref h_sorts, .ref h_firsts, .ref h_seconds, .ref h_relations, .ref h_numbers, .int v_ruleCount, .ref h_last, .ref h_before, .int v_ran, .ref h_heldCounts, .ref h_streaks, .int v_faults, .ref h_faultRule, .ref h_faultBegin, .ref h_faultEnd, .ref h_order, .ref h_left, .int v_leftCount, .ref h_brings])), (h_text, .inl (cI, 1000, .inl v_text)), (h_kinds, .inl (cI, 1000, .inl v_kinds)), (h_values, .inl (cL, 1000, .inr (.inl v_values)))] H → va_D A [(h_this, .inr (7, [.int v_thrown, .int v_rows, .ref h_rowPoint, .ref h_rowMinute, .ref h_rowValue, .ref h_text, .int v_size, .ref h_kinds, .ref h_values, .int v_words, .int v_at, .ref h_names, .ref h_testCounts, .ref h_minutes, .ref h_costs, .ref h_sorts, .ref h_firsts, .ref h_seconds, .ref h_relations, .ref h_numbers, .int v_ruleCount, .ref h_last, .ref h_before, .int v_ran, .ref h_heldCounts, .ref h_streaks, .int v_faults, .ref h_faultRule, .ref h_faultBegin, .ref h_faultEnd, .ref h_order, .ref h_left, .int v_leftCount, .ref h_brings])), (h_text, .inl (cI, 1000, .inl v_text)), (h_kinds, .inl (cI, 1000, .inl v_kinds)), (h_values, .inl (cL, 1000, .inr (.inl v_values)))] → va_S A s.heap H locs → lv_has ls 7 [(0, .ref h_this), (1, .int p1), (2, .int p2), (3, .int l3_5e), (4, .long l4_5e)] → W p l e rm_Model_digits s m args below meth c H locs 0 0 Q (F0 m 54 ls [])), ∀ (n : Nat) (l3_5 : Int32) (l4_5 : Int64) (H : Heap) (locs : List Loc) (ls : Array Slot), L_Model_digits_5 fu v_size v_text p1 p2 k_54 n l3_5 l4_5 = some t → va_P (dC, dI) vwCl [(h_this, .inr (7, [.int v_thrown, .int v_rows, .ref h_rowPoint, .ref h_rowMinute, .ref h_rowValue, .ref h_text, .int v_size, .ref h_kinds, .ref h_values, .int v_words, .int v_at, .ref h_names, .ref h_testCounts, .ref h_minutes, .ref h_costs, .ref h_sorts, .ref h_firsts, .ref h_seconds, .ref h_relations, .ref h_numbers, .int v_ruleCount, .ref h_last, .ref h_before, .int v_ran, .ref h_heldCounts, .ref h_streaks, .int v_faults, .ref h_faultRule, .ref h_faultBegin, .ref h_faultEnd, .ref h_order, .ref h_left, .int v_leftCount, .ref h_brings])), (h_text, .inl (cI, 1000, .inl v_text)), (h_kinds, .inl (cI, 1000, .inl v_kinds)), (h_values, .inl (cL, 1000, .inr (.inl v_values)))] H → va_D A [(h_this, .inr (7, [.int v_thrown, .int v_rows, .ref h_rowPoint, .ref h_rowMinute, .ref h_rowValue, .ref h_text, .int v_size, .ref h_kinds, .ref h_values, .int v_words, .int v_at, .ref h_names, .ref h_testCounts, .ref h_minutes, .ref h_costs, .ref h_sorts, .ref h_firsts, .ref h_seconds, .ref h_relations, .ref h_numbers, .int v_ruleCount, .ref h_last, .ref h_before, .int v_ran, .ref h_heldCounts, .ref h_streaks, .int v_faults, .ref h_faultRule, .ref h_faultBegin, .ref h_faultEnd, .ref h_order, .ref h_left, .int v_leftCount, .ref h_brings])), (h_text, .inl (cI, 1000, .inl v_text)), (h_kinds, .inl (cI, 1000, .inl v_kinds)), (h_values, .inl (cL, 1000, .inr (.inl v_values)))] → va_S A s.heap H locs → lv_has ls 7 [(0, .ref h_this), (1, .int p1), (2, .int p2), (3, .int l3_5), (4, .long l4_5)] → W p l e rm_Model_digits s m args below meth c H locs 0 0 Q (F0 m 5 ls []) := by
    intro k_54 hk_54 n
    induction n with
    | zero => intro l3_5 l4_5 H locs ls hf; exact (L_Model_digits_5_z hf).elim
    | succ n ih =>
      intro l3_5 l4_5 H locs ls hf hP hD hS hl
      replace hf := L_Model_digits_5_u hf
      refine lv_aload_n hx hb d_Model_digits_5 rfl (lv_at hl 0 rfl) ?_
      refine lv_iload_n hx hb d_Model_digits_6 rfl (lv_at hl 3 rfl) ?_
      obtain ⟨t_1, hg_1, hf⟩ := o_bind hf
      refine x_virt (w' := [(h_this, .inr (7, [.int v_thrown, .int v_rows, .ref h_rowPoint, .ref h_rowMinute, .ref h_rowValue, .ref h_text, .int v_size, .ref h_kinds, .ref h_values, .int v_words, .int v_at, .ref h_names, .ref h_testCounts, .ref h_minutes, .ref h_costs, .ref h_sorts, .ref h_firsts, .ref h_seconds, .ref h_relations, .ref h_numbers, .int v_ruleCount, .ref h_last, .ref h_before, .int v_ran, .ref h_heldCounts, .ref h_streaks, .int v_faults, .ref h_faultRule, .ref h_faultBegin, .ref h_faultEnd, .ref h_order, .ref h_left, .int v_leftCount, .ref h_brings])), (h_text, .inl (cI, 1000, .inl v_text)), (h_kinds, .inl (cI, 1000, .inl v_kinds)), (h_values, .inl (cL, 1000, .inr (.inl v_values)))]) (As := [.int l3_5]) (rest := []) hx hb hml hl.1 hown hT hK hN hP hD hS hA (c_Model_letter l dC dI cI cL cC h_this h_rowPoint h_rowMinute h_rowValue h_text h_kinds h_values h_names h_testCounts h_minutes h_costs h_sorts h_firsts h_seconds h_relations h_numbers h_last h_before h_heldCounts h_streaks h_faultRule h_faultBegin h_faultEnd h_order h_left h_brings H.size v_thrown v_rows v_size v_words v_at v_ruleCount v_ran v_faults v_leftCount v_text l3_5 t_1 hg_1) kM_Model_128 kI_Model_letter kS_410 kN_Model kC_Model_letter hd_Model_letter rfl 0 rfl rfl rfl ⟨Nat.le_of_ble_eq_true rfl, Nat.le_of_ble_eq_true rfl⟩ rfl rfl ⟨Nat.zero_le _, Nat.zero_le _⟩ rfl (Nat.le_of_ble_eq_true rfl) d_Model_digits_7 [0, 1] rfl rfl [.inr 0, .inr 1, .inl 2, .inl 3] rfl rfl rfl (fun H locs hP hD hS => ?_)
      obtain ⟨t_2, hg_2, hf⟩ := o_bind hf
      refine x_stat (w' := [(h_this, .inr (7, [.int v_thrown, .int v_rows, .ref h_rowPoint, .ref h_rowMinute, .ref h_rowValue, .ref h_text, .int v_size, .ref h_kinds, .ref h_values, .int v_words, .int v_at, .ref h_names, .ref h_testCounts, .ref h_minutes, .ref h_costs, .ref h_sorts, .ref h_firsts, .ref h_seconds, .ref h_relations, .ref h_numbers, .int v_ruleCount, .ref h_last, .ref h_before, .int v_ran, .ref h_heldCounts, .ref h_streaks, .int v_faults, .ref h_faultRule, .ref h_faultBegin, .ref h_faultEnd, .ref h_order, .ref h_left, .int v_leftCount, .ref h_brings])), (h_text, .inl (cI, 1000, .inl v_text)), (h_kinds, .inl (cI, 1000, .inl v_kinds)), (h_values, .inl (cL, 1000, .inr (.inl v_values)))]) (As := [.int t_1]) (rest := []) hx hb hml hl.1 hown hT hK hN hP hD hS hA (c_Model_isDigit l dC dI cI cL cC H.size t_1 t_2 hg_2) kM_Model_139 kT_Model_isDigit kN_Model kC_Model_isDigit hd_Model_isDigit rfl ⟨Nat.le_of_ble_eq_true rfl, Nat.le_of_ble_eq_true rfl⟩ rfl rfl ⟨Nat.zero_le _, Nat.zero_le _⟩ rfl (Nat.le_of_ble_eq_true rfl) d_Model_digits_10 [] rfl rfl [.inl 0, .inl 1, .inl 2, .inl 3] rfl rfl rfl (fun H locs hP hD hS => ?_)
      refine lv_if_eq (tgt := 54) hx hb d_Model_digits_13 (by decide) (fun c_3 => ?_) (fun c_3 => ?_)
      · replace hf := o_pos c_3 hf
        exact hk_54 l3_5 l4_5 H locs ls hf hP hD hS (lv_sub hl [0, 1, 2, 3, 4] rfl)
      · replace hf := o_neg c_3 hf
        refine lv_iload_n hx hb d_Model_digits_16 rfl (lv_at hl 3 rfl) ?_
        refine lv_iload_n hx hb d_Model_digits_17 rfl (lv_at hl 1 rfl) ?_
        refine lv_isub hx hb d_Model_digits_18 ?_
        refine lv_bipush (v := 7) hx hb d_Model_digits_19 (by decide) ?_
        refine lv_icmp_ge (tgt := 44) hx hb d_Model_digits_21 (by decide) (fun c_4 => ?_) (fun c_4 => ?_)
        · replace hf := o_pos c_4 hf
          refine lv_lload hx hb d_Model_digits_44 (lv_at hl 4 rfl) ?_
          refine lv_lstore (lv' := [(4, .long l4_5), (0, .ref h_this), (1, .int p1), (2, .int p2), (3, .int l3_5)]) hx hb d_Model_digits_46 hl (by decide) rfl (fun ls hl => ?_)
          refine lv_iinc (v := l3_5 + 1) (lv' := [(3, .int (l3_5 + 1)), (4, .long l4_5), (0, .ref h_this), (1, .int p1), (2, .int p2)]) hx hb d_Model_digits_48 hl (k := 4) rfl rfl (by decide) rfl (fun ls hl => ?_)
          refine lv_goto (tgt := 5) hx hb d_Model_digits_51 (by decide) ?_
          exact ih (l3_5 + 1) l4_5 H locs ls hf hP hD hS (lv_sub hl [2, 3, 4, 0, 1] rfl)
        · replace hf := o_neg c_4 hf
          refine lv_ldc2 (v := 10) hx hb hown (hT _ kK_Model_142) d_Model_digits_24 ?_
          refine lv_lload hx hb d_Model_digits_27 (lv_at hl 4 rfl) ?_
          refine lv_lmul hx hb d_Model_digits_29 ?_
          refine lv_aload_n hx hb d_Model_digits_30 rfl (lv_at hl 0 rfl) ?_
          refine lv_iload_n hx hb d_Model_digits_31 rfl (lv_at hl 3 rfl) ?_
          obtain ⟨t_5, hg_5, hf⟩ := o_bind hf
          refine x_virt (w' := [(h_this, .inr (7, [.int v_thrown, .int v_rows, .ref h_rowPoint, .ref h_rowMinute, .ref h_rowValue, .ref h_text, .int v_size, .ref h_kinds, .ref h_values, .int v_words, .int v_at, .ref h_names, .ref h_testCounts, .ref h_minutes, .ref h_costs, .ref h_sorts, .ref h_firsts, .ref h_seconds, .ref h_relations, .ref h_numbers, .int v_ruleCount, .ref h_last, .ref h_before, .int v_ran, .ref h_heldCounts, .ref h_streaks, .int v_faults, .ref h_faultRule, .ref h_faultBegin, .ref h_faultEnd, .ref h_order, .ref h_left, .int v_leftCount, .ref h_brings])), (h_text, .inl (cI, 1000, .inl v_text)), (h_kinds, .inl (cI, 1000, .inl v_kinds)), (h_values, .inl (cL, 1000, .inr (.inl v_values)))]) (As := [.int l3_5]) (rest := [.long (10 * l4_5)]) hx hb hml hl.1 hown hT hK hN hP hD hS hA (c_Model_letter l dC dI cI cL cC h_this h_rowPoint h_rowMinute h_rowValue h_text h_kinds h_values h_names h_testCounts h_minutes h_costs h_sorts h_firsts h_seconds h_relations h_numbers h_last h_before h_heldCounts h_streaks h_faultRule h_faultBegin h_faultEnd h_order h_left h_brings H.size v_thrown v_rows v_size v_words v_at v_ruleCount v_ran v_faults v_leftCount v_text l3_5 t_5 hg_5) kM_Model_128 kI_Model_letter kS_410 kN_Model kC_Model_letter hd_Model_letter rfl 0 rfl rfl rfl ⟨Nat.le_of_ble_eq_true rfl, Nat.le_of_ble_eq_true rfl⟩ rfl rfl ⟨Nat.zero_le _, Nat.zero_le _⟩ rfl (Nat.le_of_ble_eq_true rfl) d_Model_digits_32 [0, 1] rfl rfl [.inr 0, .inr 1, .inl 2, .inl 3] rfl rfl rfl (fun H locs hP hD hS => ?_)
          refine lv_i2l (v := (t_5 : Int32).toInt64) hx hb d_Model_digits_35 rfl ?_
          refine lv_ladd hx hb d_Model_digits_36 ?_
          refine lv_ldc2 (v := 48) hx hb hown (hT _ kK_Model_144) d_Model_digits_37 ?_
          refine lv_lsub hx hb d_Model_digits_40 ?_
          refine lv_goto (tgt := 46) hx hb d_Model_digits_41 (by decide) ?_
          refine lv_lstore (lv' := [(4, .long (((10 * l4_5) + ((t_5 : Int32).toInt64)) - 48)), (0, .ref h_this), (1, .int p1), (2, .int p2), (3, .int l3_5)]) hx hb d_Model_digits_46 hl (by decide) rfl (fun ls hl => ?_)
          refine lv_iinc (v := l3_5 + 1) (lv' := [(3, .int (l3_5 + 1)), (4, .long (((10 * l4_5) + ((t_5 : Int32).toInt64)) - 48)), (0, .ref h_this), (1, .int p1), (2, .int p2)]) hx hb d_Model_digits_48 hl (k := 4) rfl rfl (by decide) rfl (fun ls hl => ?_)
          refine lv_goto (tgt := 5) hx hb d_Model_digits_51 (by decide) ?_
          exact ih (l3_5 + 1) (((10 * l4_5) + ((t_5 : Int32).toInt64)) - 48) H locs ls hf hP hD hS (lv_sub hl [2, 3, 4, 0, 1] rfl)
  refine lp_5 _ (fun l3_5e l4_5e H locs ls hf hP hD hS hl => ?_) fu p1 0 H locs ls hf hP hD hS (lv_sub hl [2, 3, 4, 1, 0] rfl)
  refine lv_iload_n hx hb d_Model_digits_54 rfl (lv_at hl 3 rfl) ?_
  refine lv_iload_n hx hb d_Model_digits_55 rfl (lv_at hl 1 rfl) ?_
  refine lv_isub hx hb d_Model_digits_56 ?_
  refine lv_istore (lv' := [(6, .int (l3_5e - p1)), (0, .ref h_this), (1, .int p1), (2, .int p2), (3, .int l3_5e), (4, .long l4_5e)]) hx hb d_Model_digits_57 hl (by decide) rfl (fun ls hl => ?_)
  refine lv_iload_n hx hb d_Model_digits_59 rfl (lv_at hl 3 rfl) ?_
  refine lv_if_eq (tgt := 91) hx hb d_Model_digits_60 (by decide) (fun c_6 => ?_) (fun c_6 => ?_)
  · replace hf := o_pos c_6 hf
    refine lv_aload_n hx hb d_Model_digits_91 rfl (lv_at hl 1 rfl) ?_
    refine lv_iconst (v := 1) hx hb d_Model_digits_92 (by decide) ?_
    refine lv_iload hx hb d_Model_digits_93 (lv_at hl 0 rfl) ?_
    refine lv_bipush (v := 7) hx hb d_Model_digits_95 (by decide) ?_
    refine lv_icmp_le (tgt := 106) hx hb d_Model_digits_97 (by decide) (fun c_7 => ?_) (fun c_7 => ?_)
    · replace hf := o_pos c_7 hf
      refine lv_lload hx hb d_Model_digits_106 (lv_at hl 5 rfl) ?_
      obtain ⟨t_8, hg_8, hf⟩ := o_bind hf
      refine x_virt (w' := [(h_this, .inr (7, [.int v_thrown, .int v_rows, .ref h_rowPoint, .ref h_rowMinute, .ref h_rowValue, .ref h_text, .int v_size, .ref h_kinds, .ref h_values, .int t_8.1, .int v_at, .ref h_names, .ref h_testCounts, .ref h_minutes, .ref h_costs, .ref h_sorts, .ref h_firsts, .ref h_seconds, .ref h_relations, .ref h_numbers, .int v_ruleCount, .ref h_last, .ref h_before, .int v_ran, .ref h_heldCounts, .ref h_streaks, .int v_faults, .ref h_faultRule, .ref h_faultBegin, .ref h_faultEnd, .ref h_order, .ref h_left, .int v_leftCount, .ref h_brings])), (h_text, .inl (cI, 1000, .inl v_text)), (h_kinds, .inl (cI, 1000, .inl t_8.2.1)), (h_values, .inl (cL, 1000, .inr (.inl t_8.2.2)))]) (As := [.int 1, .long l4_5e]) (rest := []) hx hb hml hl.1 hown hT hK hN hP hD hS hA (c_Model_word l dC dI cI cL cC h_this h_rowPoint h_rowMinute h_rowValue h_text h_kinds h_values h_names h_testCounts h_minutes h_costs h_sorts h_firsts h_seconds h_relations h_numbers h_last h_before h_heldCounts h_streaks h_faultRule h_faultBegin h_faultEnd h_order h_left h_brings H.size v_thrown v_rows v_size v_words v_at v_ruleCount v_ran v_faults v_leftCount v_kinds v_values 1 l4_5e t_8 hg_8) kM_Model_135 kI_Model_word kS_415 kN_Model kC_Model_word hd_Model_word rfl 0 rfl rfl rfl ⟨Nat.le_of_ble_eq_true rfl, Nat.le_of_ble_eq_true rfl⟩ rfl rfl ⟨Nat.zero_le _, Nat.zero_le _⟩ rfl (Nat.le_of_ble_eq_true rfl) d_Model_digits_108 [0, 2, 3] rfl rfl [.inr 0, .inl 1, .inr 1, .inr 2] rfl rfl rfl (fun H locs hP hD hS => ?_)
      refine lv_iload_n hx hb d_Model_digits_111 rfl (lv_at hl 4 rfl) ?_
      rw [hQ, ← Option.some.inj hf]
      exact W.iret hx hb hr (fun t9 ht9 hW9 => ⟨rfl, by rw [ht9]; exact hP, hS.F ht9⟩) hS.2.2 d_Model_digits_112
    · replace hf := o_neg c_7 hf
      refine lv_ldc2 (v := 9999999) hx hb hown (hT _ kK_Model_148) d_Model_digits_100 ?_
      refine lv_goto (tgt := 108) hx hb d_Model_digits_103 (by decide) ?_
      obtain ⟨t_9, hg_9, hf⟩ := o_bind hf
      refine x_virt (w' := [(h_this, .inr (7, [.int v_thrown, .int v_rows, .ref h_rowPoint, .ref h_rowMinute, .ref h_rowValue, .ref h_text, .int v_size, .ref h_kinds, .ref h_values, .int t_9.1, .int v_at, .ref h_names, .ref h_testCounts, .ref h_minutes, .ref h_costs, .ref h_sorts, .ref h_firsts, .ref h_seconds, .ref h_relations, .ref h_numbers, .int v_ruleCount, .ref h_last, .ref h_before, .int v_ran, .ref h_heldCounts, .ref h_streaks, .int v_faults, .ref h_faultRule, .ref h_faultBegin, .ref h_faultEnd, .ref h_order, .ref h_left, .int v_leftCount, .ref h_brings])), (h_text, .inl (cI, 1000, .inl v_text)), (h_kinds, .inl (cI, 1000, .inl t_9.2.1)), (h_values, .inl (cL, 1000, .inr (.inl t_9.2.2)))]) (As := [.int 1, .long 9999999]) (rest := []) hx hb hml hl.1 hown hT hK hN hP hD hS hA (c_Model_word l dC dI cI cL cC h_this h_rowPoint h_rowMinute h_rowValue h_text h_kinds h_values h_names h_testCounts h_minutes h_costs h_sorts h_firsts h_seconds h_relations h_numbers h_last h_before h_heldCounts h_streaks h_faultRule h_faultBegin h_faultEnd h_order h_left h_brings H.size v_thrown v_rows v_size v_words v_at v_ruleCount v_ran v_faults v_leftCount v_kinds v_values 1 9999999 t_9 hg_9) kM_Model_135 kI_Model_word kS_415 kN_Model kC_Model_word hd_Model_word rfl 0 rfl rfl rfl ⟨Nat.le_of_ble_eq_true rfl, Nat.le_of_ble_eq_true rfl⟩ rfl rfl ⟨Nat.zero_le _, Nat.zero_le _⟩ rfl (Nat.le_of_ble_eq_true rfl) d_Model_digits_108 [0, 2, 3] rfl rfl [.inr 0, .inl 1, .inr 1, .inr 2] rfl rfl rfl (fun H locs hP hD hS => ?_)
      refine lv_iload_n hx hb d_Model_digits_111 rfl (lv_at hl 4 rfl) ?_
      rw [hQ, ← Option.some.inj hf]
      exact W.iret hx hb hr (fun t9 ht9 hW9 => ⟨rfl, by rw [ht9]; exact hP, hS.F ht9⟩) hS.2.2 d_Model_digits_112
  · replace hf := o_neg c_6 hf
    refine lv_aload_n hx hb d_Model_digits_63 rfl (lv_at hl 1 rfl) ?_
    refine lv_iconst (v := 2) hx hb d_Model_digits_64 (by decide) ?_
    refine lv_iload hx hb d_Model_digits_65 (lv_at hl 0 rfl) ?_
    refine lv_iconst (v := 1) hx hb d_Model_digits_67 (by decide) ?_
    refine lv_icmp_lt (tgt := 77) hx hb d_Model_digits_68 (by decide) (fun c_10 => ?_) (fun c_10 => ?_)
    · replace hf := o_pos c_10 hf
      refine lv_ldc2 (v := (-1)) hx hb hown (hT _ kK_Model_146) d_Model_digits_77 ?_
      refine lv_goto (tgt := 85) hx hb d_Model_digits_80 (by decide) ?_
      obtain ⟨t_11, hg_11, hf⟩ := o_bind hf
      refine x_virt (w' := [(h_this, .inr (7, [.int v_thrown, .int v_rows, .ref h_rowPoint, .ref h_rowMinute, .ref h_rowValue, .ref h_text, .int v_size, .ref h_kinds, .ref h_values, .int t_11.1, .int v_at, .ref h_names, .ref h_testCounts, .ref h_minutes, .ref h_costs, .ref h_sorts, .ref h_firsts, .ref h_seconds, .ref h_relations, .ref h_numbers, .int v_ruleCount, .ref h_last, .ref h_before, .int v_ran, .ref h_heldCounts, .ref h_streaks, .int v_faults, .ref h_faultRule, .ref h_faultBegin, .ref h_faultEnd, .ref h_order, .ref h_left, .int v_leftCount, .ref h_brings])), (h_text, .inl (cI, 1000, .inl v_text)), (h_kinds, .inl (cI, 1000, .inl t_11.2.1)), (h_values, .inl (cL, 1000, .inr (.inl t_11.2.2)))]) (As := [.int 2, .long ((-1))]) (rest := []) hx hb hml hl.1 hown hT hK hN hP hD hS hA (c_Model_word l dC dI cI cL cC h_this h_rowPoint h_rowMinute h_rowValue h_text h_kinds h_values h_names h_testCounts h_minutes h_costs h_sorts h_firsts h_seconds h_relations h_numbers h_last h_before h_heldCounts h_streaks h_faultRule h_faultBegin h_faultEnd h_order h_left h_brings H.size v_thrown v_rows v_size v_words v_at v_ruleCount v_ran v_faults v_leftCount v_kinds v_values 2 ((-1)) t_11 hg_11) kM_Model_135 kI_Model_word kS_415 kN_Model kC_Model_word hd_Model_word rfl 0 rfl rfl rfl ⟨Nat.le_of_ble_eq_true rfl, Nat.le_of_ble_eq_true rfl⟩ rfl rfl ⟨Nat.zero_le _, Nat.zero_le _⟩ rfl (Nat.le_of_ble_eq_true rfl) d_Model_digits_85 [0, 2, 3] rfl rfl [.inr 0, .inl 1, .inr 1, .inr 2] rfl rfl rfl (fun H locs hP hD hS => ?_)
      refine lv_goto (tgt := 111) hx hb d_Model_digits_88 (by decide) ?_
      refine lv_iload_n hx hb d_Model_digits_111 rfl (lv_at hl 4 rfl) ?_
      rw [hQ, ← Option.some.inj hf]
      exact W.iret hx hb hr (fun t9 ht9 hW9 => ⟨rfl, by rw [ht9]; exact hP, hS.F ht9⟩) hS.2.2 d_Model_digits_112
    · replace hf := o_neg c_10 hf
      refine lv_iload hx hb d_Model_digits_71 (lv_at hl 0 rfl) ?_
      refine lv_iconst (v := 2) hx hb d_Model_digits_73 (by decide) ?_
      refine lv_icmp_le (tgt := 83) hx hb d_Model_digits_74 (by decide) (fun c_12 => ?_) (fun c_12 => ?_)
      · replace hf := o_pos c_12 hf
        refine lv_lload hx hb d_Model_digits_83 (lv_at hl 5 rfl) ?_
        obtain ⟨t_13, hg_13, hf⟩ := o_bind hf
        refine x_virt (w' := [(h_this, .inr (7, [.int v_thrown, .int v_rows, .ref h_rowPoint, .ref h_rowMinute, .ref h_rowValue, .ref h_text, .int v_size, .ref h_kinds, .ref h_values, .int t_13.1, .int v_at, .ref h_names, .ref h_testCounts, .ref h_minutes, .ref h_costs, .ref h_sorts, .ref h_firsts, .ref h_seconds, .ref h_relations, .ref h_numbers, .int v_ruleCount, .ref h_last, .ref h_before, .int v_ran, .ref h_heldCounts, .ref h_streaks, .int v_faults, .ref h_faultRule, .ref h_faultBegin, .ref h_faultEnd, .ref h_order, .ref h_left, .int v_leftCount, .ref h_brings])), (h_text, .inl (cI, 1000, .inl v_text)), (h_kinds, .inl (cI, 1000, .inl t_13.2.1)), (h_values, .inl (cL, 1000, .inr (.inl t_13.2.2)))]) (As := [.int 2, .long l4_5e]) (rest := []) hx hb hml hl.1 hown hT hK hN hP hD hS hA (c_Model_word l dC dI cI cL cC h_this h_rowPoint h_rowMinute h_rowValue h_text h_kinds h_values h_names h_testCounts h_minutes h_costs h_sorts h_firsts h_seconds h_relations h_numbers h_last h_before h_heldCounts h_streaks h_faultRule h_faultBegin h_faultEnd h_order h_left h_brings H.size v_thrown v_rows v_size v_words v_at v_ruleCount v_ran v_faults v_leftCount v_kinds v_values 2 l4_5e t_13 hg_13) kM_Model_135 kI_Model_word kS_415 kN_Model kC_Model_word hd_Model_word rfl 0 rfl rfl rfl ⟨Nat.le_of_ble_eq_true rfl, Nat.le_of_ble_eq_true rfl⟩ rfl rfl ⟨Nat.zero_le _, Nat.zero_le _⟩ rfl (Nat.le_of_ble_eq_true rfl) d_Model_digits_85 [0, 2, 3] rfl rfl [.inr 0, .inl 1, .inr 1, .inr 2] rfl rfl rfl (fun H locs hP hD hS => ?_)
        refine lv_goto (tgt := 111) hx hb d_Model_digits_88 (by decide) ?_
        refine lv_iload_n hx hb d_Model_digits_111 rfl (lv_at hl 4 rfl) ?_
        rw [hQ, ← Option.some.inj hf]
        exact W.iret hx hb hr (fun t9 ht9 hW9 => ⟨rfl, by rw [ht9]; exact hP, hS.F ht9⟩) hS.2.2 d_Model_digits_112
      · replace hf := o_neg c_12 hf
        refine lv_ldc2 (v := (-1)) hx hb hown (hT _ kK_Model_146) d_Model_digits_77 ?_
        refine lv_goto (tgt := 85) hx hb d_Model_digits_80 (by decide) ?_
        obtain ⟨t_14, hg_14, hf⟩ := o_bind hf
        refine x_virt (w' := [(h_this, .inr (7, [.int v_thrown, .int v_rows, .ref h_rowPoint, .ref h_rowMinute, .ref h_rowValue, .ref h_text, .int v_size, .ref h_kinds, .ref h_values, .int t_14.1, .int v_at, .ref h_names, .ref h_testCounts, .ref h_minutes, .ref h_costs, .ref h_sorts, .ref h_firsts, .ref h_seconds, .ref h_relations, .ref h_numbers, .int v_ruleCount, .ref h_last, .ref h_before, .int v_ran, .ref h_heldCounts, .ref h_streaks, .int v_faults, .ref h_faultRule, .ref h_faultBegin, .ref h_faultEnd, .ref h_order, .ref h_left, .int v_leftCount, .ref h_brings])), (h_text, .inl (cI, 1000, .inl v_text)), (h_kinds, .inl (cI, 1000, .inl t_14.2.1)), (h_values, .inl (cL, 1000, .inr (.inl t_14.2.2)))]) (As := [.int 2, .long ((-1))]) (rest := []) hx hb hml hl.1 hown hT hK hN hP hD hS hA (c_Model_word l dC dI cI cL cC h_this h_rowPoint h_rowMinute h_rowValue h_text h_kinds h_values h_names h_testCounts h_minutes h_costs h_sorts h_firsts h_seconds h_relations h_numbers h_last h_before h_heldCounts h_streaks h_faultRule h_faultBegin h_faultEnd h_order h_left h_brings H.size v_thrown v_rows v_size v_words v_at v_ruleCount v_ran v_faults v_leftCount v_kinds v_values 2 ((-1)) t_14 hg_14) kM_Model_135 kI_Model_word kS_415 kN_Model kC_Model_word hd_Model_word rfl 0 rfl rfl rfl ⟨Nat.le_of_ble_eq_true rfl, Nat.le_of_ble_eq_true rfl⟩ rfl rfl ⟨Nat.zero_le _, Nat.zero_le _⟩ rfl (Nat.le_of_ble_eq_true rfl) d_Model_digits_85 [0, 2, 3] rfl rfl [.inr 0, .inl 1, .inr 1, .inr 2] rfl rfl rfl (fun H locs hP hD hS => ?_)
        refine lv_goto (tgt := 111) hx hb d_Model_digits_88 (by decide) ?_
        refine lv_iload_n hx hb d_Model_digits_111 rfl (lv_at hl 4 rfl) ?_
        rw [hQ, ← Option.some.inj hf]
        exact W.iret hx hb hr (fun t9 ht9 hW9 => ⟨rfl, by rw [ht9]; exact hP, hS.F ht9⟩) hS.2.2 d_Model_digits_112
def rm_Model_sign : Room := { frames := 1, cells := 0, slots := 0, locals := 23 }
set_option maxHeartbeats 4000000 in
set_option maxRecDepth 100000 in
theorem c_Model_sign (l : Launch) (dC : Nat → ClassId) (dI : Nat → Nat → Nat) (cI cL cC : ClassId) (h_this h_rowPoint h_rowMinute h_rowValue h_text h_kinds h_values h_names h_testCounts h_minutes h_costs h_sorts h_firsts h_seconds h_relations h_numbers h_last h_before h_heldCounts h_streaks h_faultRule h_faultBegin h_faultEnd h_order h_left h_brings : Nat) (sz : Nat) (v_thrown : Int32) (v_rows : Int32) (v_size : Int32) (v_words : Int32) (v_at : Int32) (v_ruleCount : Int32) (v_ran : Int32) (v_faults : Int32) (v_leftCount : Int32) (v_text : Nat → Int32) (v_kinds : Nat → Int32) (v_values : Nat → Int64) (p1 : Int32) (t : Int32 × Int32 × (Nat → Int32) × (Nat → Int64)) (hf : f_Model_sign v_size v_words v_text v_kinds v_values p1 = some t) : Met l y_Model_sign (Cond.code y_Model_sign prog_9_method_17_code 5 (some .int) :: xT) rm_Model_sign (va_Pc [.ref h_this, .int p1] (xP (dC, dI) (xTy cI cL cC) [(h_this, .inr (7, [.int v_thrown, .int v_rows, .ref h_rowPoint, .ref h_rowMinute, .ref h_rowValue, .ref h_text, .int v_size, .ref h_kinds, .ref h_values, .int v_words, .int v_at, .ref h_names, .ref h_testCounts, .ref h_minutes, .ref h_costs, .ref h_sorts, .ref h_firsts, .ref h_seconds, .ref h_relations, .ref h_numbers, .int v_ruleCount, .ref h_last, .ref h_before, .int v_ran, .ref h_heldCounts, .ref h_streaks, .int v_faults, .ref h_faultRule, .ref h_faultBegin, .ref h_faultEnd, .ref h_order, .ref h_left, .int v_leftCount, .ref h_brings])), (h_text, .inl (cI, 1000, .inl v_text)), (h_kinds, .inl (cI, 1000, .inl v_kinds)), (h_values, .inl (cL, 1000, .inr (.inl v_values)))] sz)) (xQ (dC, dI) [(h_this, .inr (7, [.int v_thrown, .int v_rows, .ref h_rowPoint, .ref h_rowMinute, .ref h_rowValue, .ref h_text, .int v_size, .ref h_kinds, .ref h_values, .int t.2.1, .int v_at, .ref h_names, .ref h_testCounts, .ref h_minutes, .ref h_costs, .ref h_sorts, .ref h_firsts, .ref h_seconds, .ref h_relations, .ref h_numbers, .int v_ruleCount, .ref h_last, .ref h_before, .int v_ran, .ref h_heldCounts, .ref h_streaks, .int v_faults, .ref h_faultRule, .ref h_faultBegin, .ref h_faultEnd, .ref h_order, .ref h_left, .int v_leftCount, .ref h_brings])), (h_text, .inl (cI, 1000, .inl v_text)), (h_kinds, .inl (cI, 1000, .inl t.2.2.1)), (h_values, .inl (cL, 1000, .inr (.inl t.2.2.2)))] (va_A [(h_this, .inr (7, [.int v_thrown, .int v_rows, .ref h_rowPoint, .ref h_rowMinute, .ref h_rowValue, .ref h_text, .int v_size, .ref h_kinds, .ref h_values, .int v_words, .int v_at, .ref h_names, .ref h_testCounts, .ref h_minutes, .ref h_costs, .ref h_sorts, .ref h_firsts, .ref h_seconds, .ref h_relations, .ref h_numbers, .int v_ruleCount, .ref h_last, .ref h_before, .int v_ran, .ref h_heldCounts, .ref h_streaks, .int v_faults, .ref h_faultRule, .ref h_faultBegin, .ref h_faultEnd, .ref h_order, .ref h_left, .int v_leftCount, .ref h_brings])), (h_text, .inl (cI, 1000, .inl v_text)), (h_kinds, .inl (cI, 1000, .inl v_kinds)), (h_values, .inl (cL, 1000, .inr (.inl v_values)))] sz) (some (.int t.1))) 0 0 (va_A [(h_this, .inr (7, [.int v_thrown, .int v_rows, .ref h_rowPoint, .ref h_rowMinute, .ref h_rowValue, .ref h_text, .int v_size, .ref h_kinds, .ref h_values, .int v_words, .int v_at, .ref h_names, .ref h_testCounts, .ref h_minutes, .ref h_costs, .ref h_sorts, .ref h_firsts, .ref h_seconds, .ref h_relations, .ref h_numbers, .int v_ruleCount, .ref h_last, .ref h_before, .int v_ran, .ref h_heldCounts, .ref h_streaks, .int v_faults, .ref h_faultRule, .ref h_faultBegin, .ref h_faultEnd, .ref h_order, .ref h_left, .int v_leftCount, .ref h_brings])), (h_text, .inl (cI, 1000, .inl v_text)), (h_kinds, .inl (cI, 1000, .inl v_kinds)), (h_values, .inl (cL, 1000, .inr (.inl v_values)))] sz) := by
  refine Met.ofW (cc := prog_9_method_17_code) (maxL := 5) (ret := (some .int)) (by decide) rfl ?_
  intro p e s m args below meth c s₁ B hml hv
  obtain ⟨hargs, hsz, hP, hK, hN, hD0⟩ := hv
  have hx := B.exec
  have hb := B.bytes
  have hr := B.returns
  have hT : ∀ w ∈ xT, w.before args s = true := fun w hw => atoms_spec (ws := Cond.code y_Model_sign prog_9_method_17_code 5 (some .int) :: xT) B.pre w (List.mem_cons_of_mem _ hw)
  have hown : s.vm.findClass R_Model = some m.cls := findClass_of_methodNamed B.named
  have hlocks := B.notSynchronized
  subst hsz
  have hD := hD0.self (sz := s.heap.size)
  generalize hAe : va_A [(h_this, .inr (7, [.int v_thrown, .int v_rows, .ref h_rowPoint, .ref h_rowMinute, .ref h_rowValue, .ref h_text, .int v_size, .ref h_kinds, .ref h_values, .int v_words, .int v_at, .ref h_names, .ref h_testCounts, .ref h_minutes, .ref h_costs, .ref h_sorts, .ref h_firsts, .ref h_seconds, .ref h_relations, .ref h_numbers, .int v_ruleCount, .ref h_last, .ref h_before, .int v_ran, .ref h_heldCounts, .ref h_streaks, .int v_faults, .ref h_faultRule, .ref h_faultBegin, .ref h_faultEnd, .ref h_order, .ref h_left, .int v_leftCount, .ref h_brings])), (h_text, .inl (cI, 1000, .inl v_text)), (h_kinds, .inl (cI, 1000, .inl v_kinds)), (h_values, .inl (cL, 1000, .inr (.inl v_values)))] s.heap.size = A at hD ⊢
  have hA : ∀ q : Nat, s.heap.size ≤ q → A q := fun q h => by rw [← hAe]; exact Or.inr h
  have hS : va_S A s.heap s.heap [] := va_S.rf
  have hP : va_P (dC, dI) vwCl [(h_this, .inr (7, [.int v_thrown, .int v_rows, .ref h_rowPoint, .ref h_rowMinute, .ref h_rowValue, .ref h_text, .int v_size, .ref h_kinds, .ref h_values, .int v_words, .int v_at, .ref h_names, .ref h_testCounts, .ref h_minutes, .ref h_costs, .ref h_sorts, .ref h_firsts, .ref h_seconds, .ref h_relations, .ref h_numbers, .int v_ruleCount, .ref h_last, .ref h_before, .int v_ran, .ref h_heldCounts, .ref h_streaks, .int v_faults, .ref h_faultRule, .ref h_faultBegin, .ref h_faultEnd, .ref h_order, .ref h_left, .int v_leftCount, .ref h_brings])), (h_text, .inl (cI, 1000, .inl v_text)), (h_kinds, .inl (cI, 1000, .inl v_kinds)), (h_values, .inl (cL, 1000, .inr (.inl v_values)))] s.heap := hP
  have hl := lv_entry ([.ref h_this, .int p1]) (n := 5) (Nat.le_of_ble_eq_true rfl)
  rw [show entryFrame m args 5 = entryFrame m ([.ref h_this, .int p1] : List Value).toArray 5 from by rw [hargs], lg_entry_eq]
  generalize (lg_sl ([.ref h_this, .int p1]) ++ List.replicate (5 - (lg_sl ([.ref h_this, .int p1])).length) Slot.unset).toArray = ls at hl ⊢
  have hl : lv_has ls 5 [(0, .ref h_this), (1, .int p1)] := hl
  obtain ⟨Q, hQ⟩ : ∃ Q, Q = MQ below (xQ (dC, dI) [(h_this, .inr (7, [.int v_thrown, .int v_rows, .ref h_rowPoint, .ref h_rowMinute, .ref h_rowValue, .ref h_text, .int v_size, .ref h_kinds, .ref h_values, .int t.2.1, .int v_at, .ref h_names, .ref h_testCounts, .ref h_minutes, .ref h_costs, .ref h_sorts, .ref h_firsts, .ref h_seconds, .ref h_relations, .ref h_numbers, .int v_ruleCount, .ref h_last, .ref h_before, .int v_ran, .ref h_heldCounts, .ref h_streaks, .int v_faults, .ref h_faultRule, .ref h_faultBegin, .ref h_faultEnd, .ref h_order, .ref h_left, .int v_leftCount, .ref h_brings])), (h_text, .inl (cI, 1000, .inl v_text)), (h_kinds, .inl (cI, 1000, .inl t.2.2.1)), (h_values, .inl (cL, 1000, .inr (.inl t.2.2.2)))] A (some (.int t.1))) args s 0 0 A := ⟨_, rfl⟩
  rw [← hQ]
  show W p l e rm_Model_sign s m args below meth c s.heap [] 0 0 Q _
  obtain ⟨H, hH⟩ : ∃ H, H = s.heap := ⟨_, rfl⟩
  obtain ⟨locs, hlocs⟩ : ∃ L : List Loc, L = [] := ⟨_, rfl⟩
  rw [← hlocs] at hS ⊢
  have hS : va_S A s.heap H locs := by rw [hH]; exact hS
  rw [← hH] at hP ⊢
  replace hf := f_Model_sign_u hf
  refine lv_aload_n hx hb d_Model_sign_0 rfl (lv_at hl 0 rfl) ?_
  refine lv_iload_n hx hb d_Model_sign_1 rfl (lv_at hl 1 rfl) ?_
  obtain ⟨t_1, hg_1, hf⟩ := o_bind hf
  refine x_virt (w' := [(h_this, .inr (7, [.int v_thrown, .int v_rows, .ref h_rowPoint, .ref h_rowMinute, .ref h_rowValue, .ref h_text, .int v_size, .ref h_kinds, .ref h_values, .int v_words, .int v_at, .ref h_names, .ref h_testCounts, .ref h_minutes, .ref h_costs, .ref h_sorts, .ref h_firsts, .ref h_seconds, .ref h_relations, .ref h_numbers, .int v_ruleCount, .ref h_last, .ref h_before, .int v_ran, .ref h_heldCounts, .ref h_streaks, .int v_faults, .ref h_faultRule, .ref h_faultBegin, .ref h_faultEnd, .ref h_order, .ref h_left, .int v_leftCount, .ref h_brings])), (h_text, .inl (cI, 1000, .inl v_text)), (h_kinds, .inl (cI, 1000, .inl v_kinds)), (h_values, .inl (cL, 1000, .inr (.inl v_values)))]) (As := [.int p1]) (rest := []) hx hb hml hl.1 hown hT hK hN hP hD hS hA (c_Model_letter l dC dI cI cL cC h_this h_rowPoint h_rowMinute h_rowValue h_text h_kinds h_values h_names h_testCounts h_minutes h_costs h_sorts h_firsts h_seconds h_relations h_numbers h_last h_before h_heldCounts h_streaks h_faultRule h_faultBegin h_faultEnd h_order h_left h_brings H.size v_thrown v_rows v_size v_words v_at v_ruleCount v_ran v_faults v_leftCount v_text p1 t_1 hg_1) kM_Model_128 kI_Model_letter kS_410 kN_Model kC_Model_letter hd_Model_letter rfl 0 rfl rfl rfl ⟨Nat.le_of_ble_eq_true rfl, Nat.le_of_ble_eq_true rfl⟩ rfl rfl ⟨Nat.zero_le _, Nat.zero_le _⟩ rfl (Nat.le_of_ble_eq_true rfl) d_Model_sign_2 [0, 1] rfl rfl [.inr 0, .inr 1, .inl 2, .inl 3] rfl rfl rfl (fun H locs hP hD hS => ?_)
  refine lv_istore_n (lv' := [(2, .int t_1), (0, .ref h_this), (1, .int p1)]) hx hb d_Model_sign_5 rfl hl (by decide) rfl (fun ls hl => ?_)
  refine lv_iload_n hx hb d_Model_sign_6 rfl (lv_at hl 0 rfl) ?_
  refine lv_bipush (v := 60) hx hb d_Model_sign_7 (by decide) ?_
  have jn_35 : ∀ (s0_j35 : Int32) (H : Heap) (locs : List Loc) (ls : Array Slot), J_Model_sign_35 v_words v_kinds v_values p1 t_1 s0_j35 = some t → va_P (dC, dI) vwCl [(h_this, .inr (7, [.int v_thrown, .int v_rows, .ref h_rowPoint, .ref h_rowMinute, .ref h_rowValue, .ref h_text, .int v_size, .ref h_kinds, .ref h_values, .int v_words, .int v_at, .ref h_names, .ref h_testCounts, .ref h_minutes, .ref h_costs, .ref h_sorts, .ref h_firsts, .ref h_seconds, .ref h_relations, .ref h_numbers, .int v_ruleCount, .ref h_last, .ref h_before, .int v_ran, .ref h_heldCounts, .ref h_streaks, .int v_faults, .ref h_faultRule, .ref h_faultBegin, .ref h_faultEnd, .ref h_order, .ref h_left, .int v_leftCount, .ref h_brings])), (h_text, .inl (cI, 1000, .inl v_text)), (h_kinds, .inl (cI, 1000, .inl v_kinds)), (h_values, .inl (cL, 1000, .inr (.inl v_values)))] H → va_D A [(h_this, .inr (7, [.int v_thrown, .int v_rows, .ref h_rowPoint, .ref h_rowMinute, .ref h_rowValue, .ref h_text, .int v_size, .ref h_kinds, .ref h_values, .int v_words, .int v_at, .ref h_names, .ref h_testCounts, .ref h_minutes, .ref h_costs, .ref h_sorts, .ref h_firsts, .ref h_seconds, .ref h_relations, .ref h_numbers, .int v_ruleCount, .ref h_last, .ref h_before, .int v_ran, .ref h_heldCounts, .ref h_streaks, .int v_faults, .ref h_faultRule, .ref h_faultBegin, .ref h_faultEnd, .ref h_order, .ref h_left, .int v_leftCount, .ref h_brings])), (h_text, .inl (cI, 1000, .inl v_text)), (h_kinds, .inl (cI, 1000, .inl v_kinds)), (h_values, .inl (cL, 1000, .inr (.inl v_values)))] → va_S A s.heap H locs → lv_has ls 5 [(0, .ref h_this), (1, .int p1), (2, .int t_1)] → W p l e rm_Model_sign s m args below meth c H locs 0 0 Q (F0 m 35 ls [.int s0_j35]) := by
    intro s0_j35 H locs ls hf hP hD hS hl
    replace hf := J_Model_sign_35_u hf
    refine lv_istore_n (lv' := [(3, .int s0_j35), (0, .ref h_this), (1, .int p1), (2, .int t_1)]) hx hb d_Model_sign_35 rfl hl (by decide) rfl (fun ls hl => ?_)
    refine lv_iload_n hx hb d_Model_sign_36 rfl (lv_at hl 3 rfl) ?_
    refine lv_bipush (v := 58) hx hb d_Model_sign_37 (by decide) ?_
    have jn_83 : ∀ (s0_j83 : Int32) (H : Heap) (locs : List Loc) (ls : Array Slot), J_Model_sign_83 v_words v_kinds v_values p1 t_1 s0_j35 s0_j83 = some t → va_P (dC, dI) vwCl [(h_this, .inr (7, [.int v_thrown, .int v_rows, .ref h_rowPoint, .ref h_rowMinute, .ref h_rowValue, .ref h_text, .int v_size, .ref h_kinds, .ref h_values, .int v_words, .int v_at, .ref h_names, .ref h_testCounts, .ref h_minutes, .ref h_costs, .ref h_sorts, .ref h_firsts, .ref h_seconds, .ref h_relations, .ref h_numbers, .int v_ruleCount, .ref h_last, .ref h_before, .int v_ran, .ref h_heldCounts, .ref h_streaks, .int v_faults, .ref h_faultRule, .ref h_faultBegin, .ref h_faultEnd, .ref h_order, .ref h_left, .int v_leftCount, .ref h_brings])), (h_text, .inl (cI, 1000, .inl v_text)), (h_kinds, .inl (cI, 1000, .inl v_kinds)), (h_values, .inl (cL, 1000, .inr (.inl v_values)))] H → va_D A [(h_this, .inr (7, [.int v_thrown, .int v_rows, .ref h_rowPoint, .ref h_rowMinute, .ref h_rowValue, .ref h_text, .int v_size, .ref h_kinds, .ref h_values, .int v_words, .int v_at, .ref h_names, .ref h_testCounts, .ref h_minutes, .ref h_costs, .ref h_sorts, .ref h_firsts, .ref h_seconds, .ref h_relations, .ref h_numbers, .int v_ruleCount, .ref h_last, .ref h_before, .int v_ran, .ref h_heldCounts, .ref h_streaks, .int v_faults, .ref h_faultRule, .ref h_faultBegin, .ref h_faultEnd, .ref h_order, .ref h_left, .int v_leftCount, .ref h_brings])), (h_text, .inl (cI, 1000, .inl v_text)), (h_kinds, .inl (cI, 1000, .inl v_kinds)), (h_values, .inl (cL, 1000, .inr (.inl v_values)))] → va_S A s.heap H locs → lv_has ls 5 [(0, .ref h_this), (1, .int p1), (2, .int t_1), (3, .int s0_j35)] → W p l e rm_Model_sign s m args below meth c H locs 0 0 Q (F0 m 83 ls [.int s0_j83]) := by
      intro s0_j83 H locs ls hf hP hD hS hl
      replace hf := J_Model_sign_83_u hf
      refine lv_istore (lv' := [(4, .int s0_j83), (0, .ref h_this), (1, .int p1), (2, .int t_1), (3, .int s0_j35)]) hx hb d_Model_sign_83 hl (by decide) rfl (fun ls hl => ?_)
      refine lv_aload_n hx hb d_Model_sign_85 rfl (lv_at hl 1 rfl) ?_
      refine lv_iload hx hb d_Model_sign_86 (lv_at hl 0 rfl) ?_
      have jn_97 : ∀ (s1_j97 : Int32) (H : Heap) (locs : List Loc) (ls : Array Slot), J_Model_sign_97 v_words v_kinds v_values p1 t_1 s0_j35 s1_j97 = some t → va_P (dC, dI) vwCl [(h_this, .inr (7, [.int v_thrown, .int v_rows, .ref h_rowPoint, .ref h_rowMinute, .ref h_rowValue, .ref h_text, .int v_size, .ref h_kinds, .ref h_values, .int v_words, .int v_at, .ref h_names, .ref h_testCounts, .ref h_minutes, .ref h_costs, .ref h_sorts, .ref h_firsts, .ref h_seconds, .ref h_relations, .ref h_numbers, .int v_ruleCount, .ref h_last, .ref h_before, .int v_ran, .ref h_heldCounts, .ref h_streaks, .int v_faults, .ref h_faultRule, .ref h_faultBegin, .ref h_faultEnd, .ref h_order, .ref h_left, .int v_leftCount, .ref h_brings])), (h_text, .inl (cI, 1000, .inl v_text)), (h_kinds, .inl (cI, 1000, .inl v_kinds)), (h_values, .inl (cL, 1000, .inr (.inl v_values)))] H → va_D A [(h_this, .inr (7, [.int v_thrown, .int v_rows, .ref h_rowPoint, .ref h_rowMinute, .ref h_rowValue, .ref h_text, .int v_size, .ref h_kinds, .ref h_values, .int v_words, .int v_at, .ref h_names, .ref h_testCounts, .ref h_minutes, .ref h_costs, .ref h_sorts, .ref h_firsts, .ref h_seconds, .ref h_relations, .ref h_numbers, .int v_ruleCount, .ref h_last, .ref h_before, .int v_ran, .ref h_heldCounts, .ref h_streaks, .int v_faults, .ref h_faultRule, .ref h_faultBegin, .ref h_faultEnd, .ref h_order, .ref h_left, .int v_leftCount, .ref h_brings])), (h_text, .inl (cI, 1000, .inl v_text)), (h_kinds, .inl (cI, 1000, .inl v_kinds)), (h_values, .inl (cL, 1000, .inr (.inl v_values)))] → va_S A s.heap H locs → lv_has ls 5 [(1, .int p1), (2, .int t_1), (3, .int s0_j35)] → W p l e rm_Model_sign s m args below meth c H locs 0 0 Q (F0 m 97 ls [.int s1_j97, .ref h_this]) := by
        intro s1_j97 H locs ls hf hP hD hS hl
        replace hf := J_Model_sign_97_u hf
        refine lv_iload_n hx hb d_Model_sign_97 rfl (lv_at hl 2 rfl) ?_
        refine lv_if_eq (tgt := 110) hx hb d_Model_sign_98 (by decide) (fun c_2 => ?_) (fun c_2 => ?_)
        · replace hf := o_pos c_2 hf
          refine lv_iload_n hx hb d_Model_sign_110 rfl (lv_at hl 1 rfl) ?_
          refine lv_i2l (v := (t_1 : Int32).toInt64) hx hb d_Model_sign_111 rfl ?_
          obtain ⟨t_3, hg_3, hf⟩ := o_bind hf
          refine x_virt (w' := [(h_this, .inr (7, [.int v_thrown, .int v_rows, .ref h_rowPoint, .ref h_rowMinute, .ref h_rowValue, .ref h_text, .int v_size, .ref h_kinds, .ref h_values, .int t_3.1, .int v_at, .ref h_names, .ref h_testCounts, .ref h_minutes, .ref h_costs, .ref h_sorts, .ref h_firsts, .ref h_seconds, .ref h_relations, .ref h_numbers, .int v_ruleCount, .ref h_last, .ref h_before, .int v_ran, .ref h_heldCounts, .ref h_streaks, .int v_faults, .ref h_faultRule, .ref h_faultBegin, .ref h_faultEnd, .ref h_order, .ref h_left, .int v_leftCount, .ref h_brings])), (h_text, .inl (cI, 1000, .inl v_text)), (h_kinds, .inl (cI, 1000, .inl t_3.2.1)), (h_values, .inl (cL, 1000, .inr (.inl t_3.2.2)))]) (As := [.int s1_j97, .long ((t_1 : Int32).toInt64)]) (rest := []) hx hb hml hl.1 hown hT hK hN hP hD hS hA (c_Model_word l dC dI cI cL cC h_this h_rowPoint h_rowMinute h_rowValue h_text h_kinds h_values h_names h_testCounts h_minutes h_costs h_sorts h_firsts h_seconds h_relations h_numbers h_last h_before h_heldCounts h_streaks h_faultRule h_faultBegin h_faultEnd h_order h_left h_brings H.size v_thrown v_rows v_size v_words v_at v_ruleCount v_ran v_faults v_leftCount v_kinds v_values s1_j97 ((t_1 : Int32).toInt64) t_3 hg_3) kM_Model_135 kI_Model_word kS_415 kN_Model kC_Model_word hd_Model_word rfl 0 rfl rfl rfl ⟨Nat.le_of_ble_eq_true rfl, Nat.le_of_ble_eq_true rfl⟩ rfl rfl ⟨Nat.zero_le _, Nat.zero_le _⟩ rfl (Nat.le_of_ble_eq_true rfl) d_Model_sign_112 [0, 2, 3] rfl rfl [.inr 0, .inl 1, .inr 1, .inr 2] rfl rfl rfl (fun H locs hP hD hS => ?_)
          refine lv_iload_n hx hb d_Model_sign_115 rfl (lv_at hl 0 rfl) ?_
          refine lv_iload_n hx hb d_Model_sign_116 rfl (lv_at hl 2 rfl) ?_
          refine lv_if_eq (tgt := 124) hx hb d_Model_sign_117 (by decide) (fun c_4 => ?_) (fun c_4 => ?_)
          · replace hf := o_pos c_4 hf
            refine lv_iconst (v := 1) hx hb d_Model_sign_124 (by decide) ?_
            refine lv_iadd hx hb d_Model_sign_125 ?_
            rw [hQ, ← Option.some.inj hf]
            exact W.iret hx hb hr (fun t9 ht9 hW9 => ⟨rfl, by rw [ht9]; exact hP, hS.F ht9⟩) hS.2.2 d_Model_sign_126
          · replace hf := o_neg c_4 hf
            refine lv_iconst (v := 2) hx hb d_Model_sign_120 (by decide) ?_
            refine lv_goto (tgt := 125) hx hb d_Model_sign_121 (by decide) ?_
            refine lv_iadd hx hb d_Model_sign_125 ?_
            rw [hQ, ← Option.some.inj hf]
            exact W.iret hx hb hr (fun t9 ht9 hW9 => ⟨rfl, by rw [ht9]; exact hP, hS.F ht9⟩) hS.2.2 d_Model_sign_126
        · replace hf := o_neg c_2 hf
          refine lv_iload_n hx hb d_Model_sign_101 rfl (lv_at hl 1 rfl) ?_
          refine lv_i2l (v := (t_1 : Int32).toInt64) hx hb d_Model_sign_102 rfl ?_
          refine lv_ldc2 (v := 256) hx hb hown (hT _ kK_Model_150) d_Model_sign_103 ?_
          refine lv_ladd hx hb d_Model_sign_106 ?_
          refine lv_goto (tgt := 112) hx hb d_Model_sign_107 (by decide) ?_
          obtain ⟨t_5, hg_5, hf⟩ := o_bind hf
          refine x_virt (w' := [(h_this, .inr (7, [.int v_thrown, .int v_rows, .ref h_rowPoint, .ref h_rowMinute, .ref h_rowValue, .ref h_text, .int v_size, .ref h_kinds, .ref h_values, .int t_5.1, .int v_at, .ref h_names, .ref h_testCounts, .ref h_minutes, .ref h_costs, .ref h_sorts, .ref h_firsts, .ref h_seconds, .ref h_relations, .ref h_numbers, .int v_ruleCount, .ref h_last, .ref h_before, .int v_ran, .ref h_heldCounts, .ref h_streaks, .int v_faults, .ref h_faultRule, .ref h_faultBegin, .ref h_faultEnd, .ref h_order, .ref h_left, .int v_leftCount, .ref h_brings])), (h_text, .inl (cI, 1000, .inl v_text)), (h_kinds, .inl (cI, 1000, .inl t_5.2.1)), (h_values, .inl (cL, 1000, .inr (.inl t_5.2.2)))]) (As := [.int s1_j97, .long (((t_1 : Int32).toInt64) + 256)]) (rest := []) hx hb hml hl.1 hown hT hK hN hP hD hS hA (c_Model_word l dC dI cI cL cC h_this h_rowPoint h_rowMinute h_rowValue h_text h_kinds h_values h_names h_testCounts h_minutes h_costs h_sorts h_firsts h_seconds h_relations h_numbers h_last h_before h_heldCounts h_streaks h_faultRule h_faultBegin h_faultEnd h_order h_left h_brings H.size v_thrown v_rows v_size v_words v_at v_ruleCount v_ran v_faults v_leftCount v_kinds v_values s1_j97 (((t_1 : Int32).toInt64) + 256) t_5 hg_5) kM_Model_135 kI_Model_word kS_415 kN_Model kC_Model_word hd_Model_word rfl 0 rfl rfl rfl ⟨Nat.le_of_ble_eq_true rfl, Nat.le_of_ble_eq_true rfl⟩ rfl rfl ⟨Nat.zero_le _, Nat.zero_le _⟩ rfl (Nat.le_of_ble_eq_true rfl) d_Model_sign_112 [0, 2, 3] rfl rfl [.inr 0, .inl 1, .inr 1, .inr 2] rfl rfl rfl (fun H locs hP hD hS => ?_)
          refine lv_iload_n hx hb d_Model_sign_115 rfl (lv_at hl 0 rfl) ?_
          refine lv_iload_n hx hb d_Model_sign_116 rfl (lv_at hl 2 rfl) ?_
          refine lv_if_eq (tgt := 124) hx hb d_Model_sign_117 (by decide) (fun c_6 => ?_) (fun c_6 => ?_)
          · replace hf := o_pos c_6 hf
            refine lv_iconst (v := 1) hx hb d_Model_sign_124 (by decide) ?_
            refine lv_iadd hx hb d_Model_sign_125 ?_
            rw [hQ, ← Option.some.inj hf]
            exact W.iret hx hb hr (fun t9 ht9 hW9 => ⟨rfl, by rw [ht9]; exact hP, hS.F ht9⟩) hS.2.2 d_Model_sign_126
          · replace hf := o_neg c_6 hf
            refine lv_iconst (v := 2) hx hb d_Model_sign_120 (by decide) ?_
            refine lv_goto (tgt := 125) hx hb d_Model_sign_121 (by decide) ?_
            refine lv_iadd hx hb d_Model_sign_125 ?_
            rw [hQ, ← Option.some.inj hf]
            exact W.iret hx hb hr (fun t9 ht9 hW9 => ⟨rfl, by rw [ht9]; exact hP, hS.F ht9⟩) hS.2.2 d_Model_sign_126
      refine lv_if_eq (tgt := 95) hx hb d_Model_sign_88 (by decide) (fun c_7 => ?_) (fun c_7 => ?_)
      · replace hf := o_pos c_7 hf
        refine lv_bipush (v := 9) hx hb d_Model_sign_95 (by decide) ?_
        exact jn_97 9 H locs ls hf hP hD hS (lv_sub hl [2, 3, 4] rfl)
      · replace hf := o_neg c_7 hf
        refine lv_iconst (v := 3) hx hb d_Model_sign_91 (by decide) ?_
        refine lv_goto (tgt := 97) hx hb d_Model_sign_92 (by decide) ?_
        exact jn_97 3 H locs ls hf hP hD hS (lv_sub hl [2, 3, 4] rfl)
    refine lv_icmp_eq (tgt := 78) hx hb d_Model_sign_39 (by decide) (fun c_8 => ?_) (fun c_8 => ?_)
    · replace hf := o_pos c_8 hf
      refine lv_iconst (v := 1) hx hb d_Model_sign_78 (by decide) ?_
      refine lv_goto (tgt := 83) hx hb d_Model_sign_79 (by decide) ?_
      exact jn_83 1 H locs ls hf hP hD hS (lv_sub hl [1, 2, 3, 0] rfl)
    · replace hf := o_neg c_8 hf
      refine lv_iload_n hx hb d_Model_sign_42 rfl (lv_at hl 3 rfl) ?_
      refine lv_bipush (v := 38) hx hb d_Model_sign_43 (by decide) ?_
      refine lv_icmp_eq (tgt := 78) hx hb d_Model_sign_45 (by decide) (fun c_9 => ?_) (fun c_9 => ?_)
      · replace hf := o_pos c_9 hf
        refine lv_iconst (v := 1) hx hb d_Model_sign_78 (by decide) ?_
        refine lv_goto (tgt := 83) hx hb d_Model_sign_79 (by decide) ?_
        exact jn_83 1 H locs ls hf hP hD hS (lv_sub hl [1, 2, 3, 0] rfl)
      · replace hf := o_neg c_9 hf
        refine lv_iload_n hx hb d_Model_sign_48 rfl (lv_at hl 3 rfl) ?_
        refine lv_bipush (v := 59) hx hb d_Model_sign_49 (by decide) ?_
        refine lv_icmp_eq (tgt := 78) hx hb d_Model_sign_51 (by decide) (fun c_10 => ?_) (fun c_10 => ?_)
        · replace hf := o_pos c_10 hf
          refine lv_iconst (v := 1) hx hb d_Model_sign_78 (by decide) ?_
          refine lv_goto (tgt := 83) hx hb d_Model_sign_79 (by decide) ?_
          exact jn_83 1 H locs ls hf hP hD hS (lv_sub hl [1, 2, 3, 0] rfl)
        · replace hf := o_neg c_10 hf
          refine lv_iload_n hx hb d_Model_sign_54 rfl (lv_at hl 3 rfl) ?_
          refine lv_bipush (v := 45) hx hb d_Model_sign_55 (by decide) ?_
          refine lv_icmp_eq (tgt := 78) hx hb d_Model_sign_57 (by decide) (fun c_11 => ?_) (fun c_11 => ?_)
          · replace hf := o_pos c_11 hf
            refine lv_iconst (v := 1) hx hb d_Model_sign_78 (by decide) ?_
            refine lv_goto (tgt := 83) hx hb d_Model_sign_79 (by decide) ?_
            exact jn_83 1 H locs ls hf hP hD hS (lv_sub hl [1, 2, 3, 0] rfl)
          · replace hf := o_neg c_11 hf
            refine lv_iload_n hx hb d_Model_sign_60 rfl (lv_at hl 3 rfl) ?_
            refine lv_bipush (v := 60) hx hb d_Model_sign_61 (by decide) ?_
            refine lv_icmp_eq (tgt := 78) hx hb d_Model_sign_63 (by decide) (fun c_12 => ?_) (fun c_12 => ?_)
            · replace hf := o_pos c_12 hf
              refine lv_iconst (v := 1) hx hb d_Model_sign_78 (by decide) ?_
              refine lv_goto (tgt := 83) hx hb d_Model_sign_79 (by decide) ?_
              exact jn_83 1 H locs ls hf hP hD hS (lv_sub hl [1, 2, 3, 0] rfl)
            · replace hf := o_neg c_12 hf
              refine lv_iload_n hx hb d_Model_sign_66 rfl (lv_at hl 3 rfl) ?_
              refine lv_bipush (v := 61) hx hb d_Model_sign_67 (by decide) ?_
              refine lv_icmp_eq (tgt := 78) hx hb d_Model_sign_69 (by decide) (fun c_13 => ?_) (fun c_13 => ?_)
              · replace hf := o_pos c_13 hf
                refine lv_iconst (v := 1) hx hb d_Model_sign_78 (by decide) ?_
                refine lv_goto (tgt := 83) hx hb d_Model_sign_79 (by decide) ?_
                exact jn_83 1 H locs ls hf hP hD hS (lv_sub hl [1, 2, 3, 0] rfl)
              · replace hf := o_neg c_13 hf
                refine lv_iload_n hx hb d_Model_sign_72 rfl (lv_at hl 3 rfl) ?_
                refine lv_bipush (v := 62) hx hb d_Model_sign_73 (by decide) ?_
                refine lv_icmp_ne (tgt := 82) hx hb d_Model_sign_75 (by decide) (fun c_14 => ?_) (fun c_14 => ?_)
                · replace hf := o_neg c_14 hf
                  refine lv_iconst (v := 0) hx hb d_Model_sign_82 (by decide) ?_
                  exact jn_83 0 H locs ls hf hP hD hS (lv_sub hl [1, 2, 3, 0] rfl)
                · replace hf := o_pos c_14 hf
                  refine lv_iconst (v := 1) hx hb d_Model_sign_78 (by decide) ?_
                  refine lv_goto (tgt := 83) hx hb d_Model_sign_79 (by decide) ?_
                  exact jn_83 1 H locs ls hf hP hD hS (lv_sub hl [1, 2, 3, 0] rfl)
  refine lv_icmp_eq (tgt := 18) hx hb d_Model_sign_9 (by decide) (fun c_15 => ?_) (fun c_15 => ?_)
  · replace hf := o_pos c_15 hf
    refine lv_aload_n hx hb d_Model_sign_18 rfl (lv_at hl 1 rfl) ?_
    refine lv_iload_n hx hb d_Model_sign_19 rfl (lv_at hl 2 rfl) ?_
    refine lv_iconst (v := 1) hx hb d_Model_sign_20 (by decide) ?_
    refine lv_iadd hx hb d_Model_sign_21 ?_
    obtain ⟨t_16, hg_16, hf⟩ := o_bind hf
    refine x_virt (w' := [(h_this, .inr (7, [.int v_thrown, .int v_rows, .ref h_rowPoint, .ref h_rowMinute, .ref h_rowValue, .ref h_text, .int v_size, .ref h_kinds, .ref h_values, .int v_words, .int v_at, .ref h_names, .ref h_testCounts, .ref h_minutes, .ref h_costs, .ref h_sorts, .ref h_firsts, .ref h_seconds, .ref h_relations, .ref h_numbers, .int v_ruleCount, .ref h_last, .ref h_before, .int v_ran, .ref h_heldCounts, .ref h_streaks, .int v_faults, .ref h_faultRule, .ref h_faultBegin, .ref h_faultEnd, .ref h_order, .ref h_left, .int v_leftCount, .ref h_brings])), (h_text, .inl (cI, 1000, .inl v_text)), (h_kinds, .inl (cI, 1000, .inl v_kinds)), (h_values, .inl (cL, 1000, .inr (.inl v_values)))]) (As := [.int (p1 + 1)]) (rest := []) hx hb hml hl.1 hown hT hK hN hP hD hS hA (c_Model_letter l dC dI cI cL cC h_this h_rowPoint h_rowMinute h_rowValue h_text h_kinds h_values h_names h_testCounts h_minutes h_costs h_sorts h_firsts h_seconds h_relations h_numbers h_last h_before h_heldCounts h_streaks h_faultRule h_faultBegin h_faultEnd h_order h_left h_brings H.size v_thrown v_rows v_size v_words v_at v_ruleCount v_ran v_faults v_leftCount v_text (p1 + 1) t_16 hg_16) kM_Model_128 kI_Model_letter kS_410 kN_Model kC_Model_letter hd_Model_letter rfl 0 rfl rfl rfl ⟨Nat.le_of_ble_eq_true rfl, Nat.le_of_ble_eq_true rfl⟩ rfl rfl ⟨Nat.zero_le _, Nat.zero_le _⟩ rfl (Nat.le_of_ble_eq_true rfl) d_Model_sign_22 [0, 1] rfl rfl [.inr 0, .inr 1, .inl 2, .inl 3] rfl rfl rfl (fun H locs hP hD hS => ?_)
    refine lv_bipush (v := 61) hx hb d_Model_sign_25 (by decide) ?_
    refine lv_icmp_ne (tgt := 34) hx hb d_Model_sign_27 (by decide) (fun c_17 => ?_) (fun c_17 => ?_)
    · replace hf := o_neg c_17 hf
      refine lv_iconst (v := 0) hx hb d_Model_sign_34 (by decide) ?_
      exact jn_35 0 H locs ls hf hP hD hS (lv_sub hl [1, 2, 0] rfl)
    · replace hf := o_pos c_17 hf
      refine lv_iconst (v := 1) hx hb d_Model_sign_30 (by decide) ?_
      refine lv_goto (tgt := 35) hx hb d_Model_sign_31 (by decide) ?_
      exact jn_35 1 H locs ls hf hP hD hS (lv_sub hl [1, 2, 0] rfl)
  · replace hf := o_neg c_15 hf
    refine lv_iload_n hx hb d_Model_sign_12 rfl (lv_at hl 0 rfl) ?_
    refine lv_bipush (v := 62) hx hb d_Model_sign_13 (by decide) ?_
    refine lv_icmp_ne (tgt := 34) hx hb d_Model_sign_15 (by decide) (fun c_18 => ?_) (fun c_18 => ?_)
    · replace hf := o_neg c_18 hf
      refine lv_iconst (v := 0) hx hb d_Model_sign_34 (by decide) ?_
      exact jn_35 0 H locs ls hf hP hD hS (lv_sub hl [1, 2, 0] rfl)
    · replace hf := o_pos c_18 hf
      refine lv_aload_n hx hb d_Model_sign_18 rfl (lv_at hl 1 rfl) ?_
      refine lv_iload_n hx hb d_Model_sign_19 rfl (lv_at hl 2 rfl) ?_
      refine lv_iconst (v := 1) hx hb d_Model_sign_20 (by decide) ?_
      refine lv_iadd hx hb d_Model_sign_21 ?_
      obtain ⟨t_19, hg_19, hf⟩ := o_bind hf
      refine x_virt (w' := [(h_this, .inr (7, [.int v_thrown, .int v_rows, .ref h_rowPoint, .ref h_rowMinute, .ref h_rowValue, .ref h_text, .int v_size, .ref h_kinds, .ref h_values, .int v_words, .int v_at, .ref h_names, .ref h_testCounts, .ref h_minutes, .ref h_costs, .ref h_sorts, .ref h_firsts, .ref h_seconds, .ref h_relations, .ref h_numbers, .int v_ruleCount, .ref h_last, .ref h_before, .int v_ran, .ref h_heldCounts, .ref h_streaks, .int v_faults, .ref h_faultRule, .ref h_faultBegin, .ref h_faultEnd, .ref h_order, .ref h_left, .int v_leftCount, .ref h_brings])), (h_text, .inl (cI, 1000, .inl v_text)), (h_kinds, .inl (cI, 1000, .inl v_kinds)), (h_values, .inl (cL, 1000, .inr (.inl v_values)))]) (As := [.int (p1 + 1)]) (rest := []) hx hb hml hl.1 hown hT hK hN hP hD hS hA (c_Model_letter l dC dI cI cL cC h_this h_rowPoint h_rowMinute h_rowValue h_text h_kinds h_values h_names h_testCounts h_minutes h_costs h_sorts h_firsts h_seconds h_relations h_numbers h_last h_before h_heldCounts h_streaks h_faultRule h_faultBegin h_faultEnd h_order h_left h_brings H.size v_thrown v_rows v_size v_words v_at v_ruleCount v_ran v_faults v_leftCount v_text (p1 + 1) t_19 hg_19) kM_Model_128 kI_Model_letter kS_410 kN_Model kC_Model_letter hd_Model_letter rfl 0 rfl rfl rfl ⟨Nat.le_of_ble_eq_true rfl, Nat.le_of_ble_eq_true rfl⟩ rfl rfl ⟨Nat.zero_le _, Nat.zero_le _⟩ rfl (Nat.le_of_ble_eq_true rfl) d_Model_sign_22 [0, 1] rfl rfl [.inr 0, .inr 1, .inl 2, .inl 3] rfl rfl rfl (fun H locs hP hD hS => ?_)
      refine lv_bipush (v := 61) hx hb d_Model_sign_25 (by decide) ?_
      refine lv_icmp_ne (tgt := 34) hx hb d_Model_sign_27 (by decide) (fun c_20 => ?_) (fun c_20 => ?_)
      · replace hf := o_neg c_20 hf
        refine lv_iconst (v := 0) hx hb d_Model_sign_34 (by decide) ?_
        exact jn_35 0 H locs ls hf hP hD hS (lv_sub hl [1, 2, 0] rfl)
      · replace hf := o_pos c_20 hf
        refine lv_iconst (v := 1) hx hb d_Model_sign_30 (by decide) ?_
        refine lv_goto (tgt := 35) hx hb d_Model_sign_31 (by decide) ?_
        exact jn_35 1 H locs ls hf hP hD hS (lv_sub hl [1, 2, 0] rfl)
