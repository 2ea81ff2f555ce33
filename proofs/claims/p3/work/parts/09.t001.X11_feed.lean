theorem dX11_feed_0 : decode cX11_feed 0 = .ok (.aload_n 0, 1) := by decide +kernel
theorem dX11_feed_1 : decode cX11_feed 1 = .ok (.iconst 0, 1) := by decide +kernel
theorem dX11_feed_2 : decode cX11_feed 2 = .ok (.putfield 143, 3) := by decide +kernel
theorem dX11_feed_5 : decode cX11_feed 5 = .ok (.aload_n 0, 1) := by decide +kernel
theorem dX11_feed_6 : decode cX11_feed 6 = .ok (.getfield 146, 3) := by decide +kernel
theorem dX11_feed_9 : decode cX11_feed 9 = .ok (.sipush 680, 3) := by decide +kernel
theorem dX11_feed_17 : decode cX11_feed 17 = .ok (.iconst 0, 1) := by decide +kernel
theorem dX11_feed_18 : decode cX11_feed 18 = .ok (.istore 6, 2) := by decide +kernel
theorem dX11_feed_20 : decode cX11_feed 20 = .ok (.iload 6, 2) := by decide +kernel
theorem dX11_feed_22 : decode cX11_feed 22 = .ok (.bipush 20, 2) := by decide +kernel
theorem dX11_feed_27 : decode cX11_feed 27 = .ok (.iload 6, 2) := by decide +kernel
theorem dX11_feed_29 : decode cX11_feed 29 = .ok (.iconst 4, 1) := by decide +kernel
theorem dX11_feed_33 : decode cX11_feed 33 = .ok (.iload_n 1, 1) := by decide +kernel
theorem dX11_feed_34 : decode cX11_feed 34 = .ok (.goto 39, 3) := by decide +kernel
theorem dX11_feed_73 : decode cX11_feed 73 = .ok (.istore 7, 2) := by decide +kernel
theorem dX11_feed_75 : decode cX11_feed 75 = .ok (.aload_n 0, 1) := by decide +kernel
theorem dX11_feed_76 : decode cX11_feed 76 = .ok (.getfield 9, 3) := by decide +kernel
theorem dX11_feed_79 : decode cX11_feed 79 = .ok (.aload_n 0, 1) := by decide +kernel
theorem dX11_feed_80 : decode cX11_feed 80 = .ok (.getfield 146, 3) := by decide +kernel
theorem dX11_feed_83 : decode cX11_feed 83 = .ok (.iload 6, 2) := by decide +kernel
theorem dX11_feed_86 : decode cX11_feed 86 = .ok (.iload 7, 2) := by decide +kernel
theorem dX11_feed_88 : decode cX11_feed 88 = .ok (.bipush 24, 2) := by decide +kernel
theorem dX11_feed_90 : decode cX11_feed 90 = .ok (.bipush 8, 2) := by decide +kernel
theorem dX11_feed_92 : decode cX11_feed 92 = .ok (.iload 6, 2) := by decide +kernel
theorem dX11_feed_94 : decode cX11_feed 94 = .ok (.iconst 4, 1) := by decide +kernel
theorem dX11_feed_99 : decode cX11_feed 99 = .ok (.sipush 255, 3) := by decide +kernel
theorem dX11_feed_107 : decode cX11_feed 107 = .ok (.goto (-87), 3) := by decide +kernel
theorem dX11_feed_110 : decode cX11_feed 110 = .ok (.aload_n 0, 1) := by decide +kernel
theorem dX11_feed_111 : decode cX11_feed 111 = .ok (.dup, 1) := by decide +kernel
theorem dX11_feed_112 : decode cX11_feed 112 = .ok (.getfield 146, 3) := by decide +kernel
theorem dX11_feed_115 : decode cX11_feed 115 = .ok (.bipush 20, 2) := by decide +kernel
theorem dX11_feed_118 : decode cX11_feed 118 = .ok (.putfield 146, 3) := by decide +kernel
theorem dX11_feed_121 : decode cX11_feed 121 = .ok (.aload_n 0, 1) := by decide +kernel
theorem dX11_feed_122 : decode cX11_feed 122 = .ok (.getfield 146, 3) := by decide +kernel
theorem dX11_feed_125 : decode cX11_feed 125 = .ok (.ireturn, 1) := by decide +kernel
theorem dX11_feed_37 : decode cX11_feed 37 = .ok (.iload 6, 2) := by decide +kernel
theorem dX11_feed_39 : decode cX11_feed 39 = .ok (.bipush 8, 2) := by decide +kernel
theorem dX11_feed_48 : decode cX11_feed 48 = .ok (.iload 6, 2) := by decide +kernel
theorem dX11_feed_50 : decode cX11_feed 50 = .ok (.bipush 12, 2) := by decide +kernel
theorem dX11_feed_59 : decode cX11_feed 59 = .ok (.iload 6, 2) := by decide +kernel
theorem dX11_feed_61 : decode cX11_feed 61 = .ok (.bipush 16, 2) := by decide +kernel
theorem dX11_feed_71 : decode cX11_feed 71 = .ok (.iload 5, 2) := by decide +kernel
theorem dX11_feed_66 : decode cX11_feed 66 = .ok (.iload 4, 2) := by decide +kernel
theorem dX11_feed_68 : decode cX11_feed 68 = .ok (.goto 5, 3) := by decide +kernel
theorem dX11_feed_55 : decode cX11_feed 55 = .ok (.iload_n 3, 1) := by decide +kernel
theorem dX11_feed_56 : decode cX11_feed 56 = .ok (.goto 17, 3) := by decide +kernel
theorem dX11_feed_44 : decode cX11_feed 44 = .ok (.iload_n 2, 1) := by decide +kernel
theorem dX11_feed_45 : decode cX11_feed 45 = .ok (.goto 28, 3) := by decide +kernel
theorem dX11_feed_15 : decode cX11_feed 15 = .ok (.iconst (-1), 1) := by decide +kernel
theorem dX11_feed_16 : decode cX11_feed 16 = .ok (.ireturn, 1) := by decide +kernel
theorem dX11_feed_12 : decode cX11_feed 12 = .ok (.if_icmp .le 5, 3) := by decide +kernel
theorem dX11_feed_24 : decode cX11_feed 24 = .ok (.if_icmp .ge 86, 3) := by decide +kernel
theorem dX11_feed_117 : decode cX11_feed 117 = .ok (.iadd, 1) := by decide +kernel
theorem dX11_feed_30 : decode cX11_feed 30 = .ok (.if_icmp .ge 7, 3) := by decide +kernel
theorem dX11_feed_41 : decode cX11_feed 41 = .ok (.if_icmp .ge 7, 3) := by decide +kernel
theorem dX11_feed_52 : decode cX11_feed 52 = .ok (.if_icmp .ge 7, 3) := by decide +kernel
theorem dX11_feed_63 : decode cX11_feed 63 = .ok (.if_icmp .ge 8, 3) := by decide +kernel
theorem dX11_feed_85 : decode cX11_feed 85 = .ok (.iadd, 1) := by decide +kernel
theorem dX11_feed_95 : decode cX11_feed 95 = .ok (.irem, 1) := by decide +kernel
theorem dX11_feed_96 : decode cX11_feed 96 = .ok (.imul, 1) := by decide +kernel
theorem dX11_feed_97 : decode cX11_feed 97 = .ok (.isub, 1) := by decide +kernel
theorem dX11_feed_98 : decode cX11_feed 98 = .ok (.ishr, 1) := by decide +kernel
theorem dX11_feed_102 : decode cX11_feed 102 = .ok (.iand, 1) := by decide +kernel
theorem dX11_feed_103 : decode cX11_feed 103 = .ok (.iastore, 1) := by decide +kernel
theorem dX11_feed_104 : decode cX11_feed 104 = .ok (.iinc 6 1, 3) := by decide +kernel
abbrev q_X11_feed (dC : Nat → ClassId) (dI : Nat → Nat → Nat) (A : Nat → Prop) (mm : Nat) (v0 : Int32) (v1 : Int32) (v2 : Int32) (v3 : Int32) (v4 : Int32) (mm_thrown : Int32) (mm_tape : Nat) (mm_taped : Int32) (mm_number : Nat) (mm_clockName : Nat) (mm_clockOff : Nat) (mm_clockGain : Nat) (mm_clockRough : Nat) (mm_personName : Nat) (mm_personOff : Nat) (mm_personGain : Nat) (mm_personRough : Nat) (mm_custom : Nat) (mm_customA : Nat) (mm_customB : Nat) (mm_ruleFrom : Nat) (mm_ruleTo : Nat) (mm_roundOf : Nat) (mm_roundAt : Nat) (mm_roundHour : Nat) (mm_gunAt : Nat) (mm_gunHour : Nat) (mm_knotSort : Nat) (mm_knotValue : Nat) (mm_lines : Int32) (mm_size : Int32) (mm_at : Int32) (mm_place : Int32) (mm_sort : Int32) (mm_value : Int32) (mm_fault : Int32) (mm_faultPlace : Int32) (mm_lastFault : Int32) (mm_lastPlace : Int32) (mm_open : Int32) (mm_counted : Int32) (mm_tryWhat : Int32) (mm_tryAt : Int32) (mm_rightSet : Int32) (mm_movedThing : Int32) (mm_movedBy : Int32) (mm_oftenClock : Int32) (mm_oftenBy : Int32) (mm_purposePerson : Int32) (mm_purposeClock : Int32) (mm_purposeHour : Int32) (mm_start : Nat) (mm_off : Nat) (mm_last : Nat) (mm_passed : Nat) (mm_kept : Nat) (mm_keptMany : Nat) (mm_next : Int32) (mm_passings : Int32) (mm_history : Nat) (mm_names : Nat) (mm_worked : Nat) (mm_workedMany : Int32) (mm_readings : Int32) (mm_knownBy : Int32) (mm_readThing : Nat) (mm_readHour : Nat) (mm_readLow : Nat) (mm_readHigh : Nat) (mm_hasImage : Int32) (mm_imageNext : Int32) (mm_imagePassings : Int32) (mm_imageOff : Nat) (mm_imageLast : Nat) (mm_imagePassed : Nat) (mm_imageKept : Nat) (mm_imageMany : Nat) (mm_imageHistory : Nat) (k_mm_tape : ClassId) (f_mm_tape : Nat → Int32) : Array Value → State → Outcome → State → Prop := va_Qi (fun (r : Int32) (_ : Unit) => (680 < mm_taped.toInt ∧ r.toInt = -1) ∨ (mm_taped.toInt ≤ 680 ∧ r.toInt = mm_taped.toInt + 20)) (fun (_ : Unit) (t : State) => ∃ (e_mm_thrown : Int32), ∃ (e_mm_taped : Int32), ∃ (g_mm_tape : Nat → Int32), (0 ≤ e_mm_taped.toInt ∧ e_mm_taped.toInt ≤ 700) ∧ (Rg g_mm_tape 0 255) ∧ ((680 < mm_taped.toInt ∧ e_mm_taped.toInt = mm_taped.toInt) ∨ (mm_taped.toInt ≤ 680 ∧ e_mm_taped.toInt = mm_taped.toInt + 20)) ∧ ((680 < mm_taped.toInt ∧ g_mm_tape = f_mm_tape) ∨ (mm_taped.toInt ≤ 680 ∧ FDM f_mm_tape g_mm_tape mm_taped v0 v1 v2 v3 v4)) ∧ va_P (dC, dI) vwCl [(mm, .inr (11, [.int e_mm_thrown, .ref mm_tape, .int e_mm_taped, .ref mm_number, .ref mm_clockName, .ref mm_clockOff, .ref mm_clockGain, .ref mm_clockRough, .ref mm_personName, .ref mm_personOff, .ref mm_personGain, .ref mm_personRough, .ref mm_custom, .ref mm_customA, .ref mm_customB, .ref mm_ruleFrom, .ref mm_ruleTo, .ref mm_roundOf, .ref mm_roundAt, .ref mm_roundHour, .ref mm_gunAt, .ref mm_gunHour, .ref mm_knotSort, .ref mm_knotValue, .int mm_lines, .int mm_size, .int mm_at, .int mm_place, .int mm_sort, .int mm_value, .int mm_fault, .int mm_faultPlace, .int mm_lastFault, .int mm_lastPlace, .int mm_open, .int mm_counted, .int mm_tryWhat, .int mm_tryAt, .int mm_rightSet, .int mm_movedThing, .int mm_movedBy, .int mm_oftenClock, .int mm_oftenBy, .int mm_purposePerson, .int mm_purposeClock, .int mm_purposeHour, .ref mm_start, .ref mm_off, .ref mm_last, .ref mm_passed, .ref mm_kept, .ref mm_keptMany, .int mm_next, .int mm_passings, .ref mm_history, .ref mm_names, .ref mm_worked, .int mm_workedMany, .int mm_readings, .int mm_knownBy, .ref mm_readThing, .ref mm_readHour, .ref mm_readLow, .ref mm_readHigh, .int mm_hasImage, .int mm_imageNext, .int mm_imagePassings, .ref mm_imageOff, .ref mm_imageLast, .ref mm_imagePassed, .ref mm_imageKept, .ref mm_imageMany, .ref mm_imageHistory])), (mm_tape, .inl (k_mm_tape, 700, .inl g_mm_tape))] t.heap ∧ va_D A [(mm, .inr (11, [.int e_mm_thrown, .ref mm_tape, .int e_mm_taped, .ref mm_number, .ref mm_clockName, .ref mm_clockOff, .ref mm_clockGain, .ref mm_clockRough, .ref mm_personName, .ref mm_personOff, .ref mm_personGain, .ref mm_personRough, .ref mm_custom, .ref mm_customA, .ref mm_customB, .ref mm_ruleFrom, .ref mm_ruleTo, .ref mm_roundOf, .ref mm_roundAt, .ref mm_roundHour, .ref mm_gunAt, .ref mm_gunHour, .ref mm_knotSort, .ref mm_knotValue, .int mm_lines, .int mm_size, .int mm_at, .int mm_place, .int mm_sort, .int mm_value, .int mm_fault, .int mm_faultPlace, .int mm_lastFault, .int mm_lastPlace, .int mm_open, .int mm_counted, .int mm_tryWhat, .int mm_tryAt, .int mm_rightSet, .int mm_movedThing, .int mm_movedBy, .int mm_oftenClock, .int mm_oftenBy, .int mm_purposePerson, .int mm_purposeClock, .int mm_purposeHour, .ref mm_start, .ref mm_off, .ref mm_last, .ref mm_passed, .ref mm_kept, .ref mm_keptMany, .int mm_next, .int mm_passings, .ref mm_history, .ref mm_names, .ref mm_worked, .int mm_workedMany, .int mm_readings, .int mm_knownBy, .ref mm_readThing, .ref mm_readHour, .ref mm_readLow, .ref mm_readHigh, .int mm_hasImage, .int mm_imageNext, .int mm_imagePassings, .ref mm_imageOff, .ref mm_imageLast, .ref mm_imagePassed, .ref mm_imageKept, .ref mm_imageMany, .ref mm_imageHistory])), (mm_tape, .inl (k_mm_tape, 700, .inl g_mm_tape))]) A
set_option maxHeartbeats 4000000 in
set_option maxRecDepth 100000 in
theorem c_X11_feed (l : Launch) (dC : Nat → ClassId) (dI : Nat → Nat → Nat) (sz : Nat) (mm : Nat) (v0 : Int32) (v1 : Int32) (v2 : Int32) (v3 : Int32) (v4 : Int32) (mm_thrown : Int32) (mm_tape : Nat) (mm_taped : Int32) (mm_number : Nat) (mm_clockName : Nat) (mm_clockOff : Nat) (mm_clockGain : Nat) (mm_clockRough : Nat) (mm_personName : Nat) (mm_personOff : Nat) (mm_personGain : Nat) (mm_personRough : Nat) (mm_custom : Nat) (mm_customA : Nat) (mm_customB : Nat) (mm_ruleFrom : Nat) (mm_ruleTo : Nat) (mm_roundOf : Nat) (mm_roundAt : Nat) (mm_roundHour : Nat) (mm_gunAt : Nat) (mm_gunHour : Nat) (mm_knotSort : Nat) (mm_knotValue : Nat) (mm_lines : Int32) (mm_size : Int32) (mm_at : Int32) (mm_place : Int32) (mm_sort : Int32) (mm_value : Int32) (mm_fault : Int32) (mm_faultPlace : Int32) (mm_lastFault : Int32) (mm_lastPlace : Int32) (mm_open : Int32) (mm_counted : Int32) (mm_tryWhat : Int32) (mm_tryAt : Int32) (mm_rightSet : Int32) (mm_movedThing : Int32) (mm_movedBy : Int32) (mm_oftenClock : Int32) (mm_oftenBy : Int32) (mm_purposePerson : Int32) (mm_purposeClock : Int32) (mm_purposeHour : Int32) (mm_start : Nat) (mm_off : Nat) (mm_last : Nat) (mm_passed : Nat) (mm_kept : Nat) (mm_keptMany : Nat) (mm_next : Int32) (mm_passings : Int32) (mm_history : Nat) (mm_names : Nat) (mm_worked : Nat) (mm_workedMany : Int32) (mm_readings : Int32) (mm_knownBy : Int32) (mm_readThing : Nat) (mm_readHour : Nat) (mm_readLow : Nat) (mm_readHigh : Nat) (mm_hasImage : Int32) (mm_imageNext : Int32) (mm_imagePassings : Int32) (mm_imageOff : Nat) (mm_imageLast : Nat) (mm_imagePassed : Nat) (mm_imageKept : Nat) (mm_imageMany : Nat) (mm_imageHistory : Nat) (k_mm_tape : ClassId) (f_mm_tape : Nat → Int32) (h_mm_taped : 0 ≤ mm_taped.toInt ∧ mm_taped.toInt ≤ 700) (h_mm_size : 0 ≤ mm_size.toInt ∧ mm_size.toInt ≤ 700) (h_mm_at : 0 ≤ mm_at.toInt ∧ mm_at.toInt ≤ 700) (h_mm_place : 0 ≤ mm_place.toInt ∧ mm_place.toInt ≤ 700) (h_mm_open : 0 ≤ mm_open.toInt ∧ mm_open.toInt ≤ 8) (h_mm_counted : 0 ≤ mm_counted.toInt ∧ mm_counted.toInt ≤ 64) (h_mm_next : 0 ≤ mm_next.toInt ∧ mm_next.toInt ≤ 2000) (h_mm_workedMany : 0 ≤ mm_workedMany.toInt ∧ mm_workedMany.toInt ≤ 64) (h_mm_readings : 0 ≤ mm_readings.toInt ∧ mm_readings.toInt ≤ 30) (h_mm_knownBy : (-1) ≤ mm_knownBy.toInt ∧ mm_knownBy.toInt ≤ 30) (h_mm_hasImage : 0 ≤ mm_hasImage.toInt ∧ mm_hasImage.toInt ≤ 1) (h_mm_imageNext : 0 ≤ mm_imageNext.toInt ∧ mm_imageNext.toInt ≤ 2000) (h_f_mm_tape : Rg f_mm_tape 0 255) : Met l yX11_feed (pw_w yX11_feed cX11_feed 8 (some .int)) ({ frames := 0, cells := 0, slots := 0, locals := 0 }) (va_Pc [.ref mm, .int v0, .int v1, .int v2, .int v3, .int v4] (fun U => U.heap.size = sz ∧ va_P (dC, dI) vwCl [(mm, .inr (11, [.int mm_thrown, .ref mm_tape, .int mm_taped, .ref mm_number, .ref mm_clockName, .ref mm_clockOff, .ref mm_clockGain, .ref mm_clockRough, .ref mm_personName, .ref mm_personOff, .ref mm_personGain, .ref mm_personRough, .ref mm_custom, .ref mm_customA, .ref mm_customB, .ref mm_ruleFrom, .ref mm_ruleTo, .ref mm_roundOf, .ref mm_roundAt, .ref mm_roundHour, .ref mm_gunAt, .ref mm_gunHour, .ref mm_knotSort, .ref mm_knotValue, .int mm_lines, .int mm_size, .int mm_at, .int mm_place, .int mm_sort, .int mm_value, .int mm_fault, .int mm_faultPlace, .int mm_lastFault, .int mm_lastPlace, .int mm_open, .int mm_counted, .int mm_tryWhat, .int mm_tryAt, .int mm_rightSet, .int mm_movedThing, .int mm_movedBy, .int mm_oftenClock, .int mm_oftenBy, .int mm_purposePerson, .int mm_purposeClock, .int mm_purposeHour, .ref mm_start, .ref mm_off, .ref mm_last, .ref mm_passed, .ref mm_kept, .ref mm_keptMany, .int mm_next, .int mm_passings, .ref mm_history, .ref mm_names, .ref mm_worked, .int mm_workedMany, .int mm_readings, .int mm_knownBy, .ref mm_readThing, .ref mm_readHour, .ref mm_readLow, .ref mm_readHigh, .int mm_hasImage, .int mm_imageNext, .int mm_imagePassings, .ref mm_imageOff, .ref mm_imageLast, .ref mm_imagePassed, .ref mm_imageKept, .ref mm_imageMany, .ref mm_imageHistory])), (mm_tape, .inl (k_mm_tape, 700, .inl f_mm_tape))] U.heap ∧ va_K (dC, dI) vwCl [(k_mm_tape, .int)] U ∧ va_D (fun _ => True) [(mm, .inr (11, [.int mm_thrown, .ref mm_tape, .int mm_taped, .ref mm_number, .ref mm_clockName, .ref mm_clockOff, .ref mm_clockGain, .ref mm_clockRough, .ref mm_personName, .ref mm_personOff, .ref mm_personGain, .ref mm_personRough, .ref mm_custom, .ref mm_customA, .ref mm_customB, .ref mm_ruleFrom, .ref mm_ruleTo, .ref mm_roundOf, .ref mm_roundAt, .ref mm_roundHour, .ref mm_gunAt, .ref mm_gunHour, .ref mm_knotSort, .ref mm_knotValue, .int mm_lines, .int mm_size, .int mm_at, .int mm_place, .int mm_sort, .int mm_value, .int mm_fault, .int mm_faultPlace, .int mm_lastFault, .int mm_lastPlace, .int mm_open, .int mm_counted, .int mm_tryWhat, .int mm_tryAt, .int mm_rightSet, .int mm_movedThing, .int mm_movedBy, .int mm_oftenClock, .int mm_oftenBy, .int mm_purposePerson, .int mm_purposeClock, .int mm_purposeHour, .ref mm_start, .ref mm_off, .ref mm_last, .ref mm_passed, .ref mm_kept, .ref mm_keptMany, .int mm_next, .int mm_passings, .ref mm_history, .ref mm_names, .ref mm_worked, .int mm_workedMany, .int mm_readings, .int mm_knownBy, .ref mm_readThing, .ref mm_readHour, .ref mm_readLow, .ref mm_readHigh, .int mm_hasImage, .int mm_imageNext, .int mm_imagePassings, .ref mm_imageOff, .ref mm_imageLast, .ref mm_imagePassed, .ref mm_imageKept, .ref mm_imageMany, .ref mm_imageHistory])), (mm_tape, .inl (k_mm_tape, 700, .inl f_mm_tape))])) (q_X11_feed dC dI (va_A [(mm, .inr (11, [.int mm_thrown, .ref mm_tape, .int mm_taped, .ref mm_number, .ref mm_clockName, .ref mm_clockOff, .ref mm_clockGain, .ref mm_clockRough, .ref mm_personName, .ref mm_personOff, .ref mm_personGain, .ref mm_personRough, .ref mm_custom, .ref mm_customA, .ref mm_customB, .ref mm_ruleFrom, .ref mm_ruleTo, .ref mm_roundOf, .ref mm_roundAt, .ref mm_roundHour, .ref mm_gunAt, .ref mm_gunHour, .ref mm_knotSort, .ref mm_knotValue, .int mm_lines, .int mm_size, .int mm_at, .int mm_place, .int mm_sort, .int mm_value, .int mm_fault, .int mm_faultPlace, .int mm_lastFault, .int mm_lastPlace, .int mm_open, .int mm_counted, .int mm_tryWhat, .int mm_tryAt, .int mm_rightSet, .int mm_movedThing, .int mm_movedBy, .int mm_oftenClock, .int mm_oftenBy, .int mm_purposePerson, .int mm_purposeClock, .int mm_purposeHour, .ref mm_start, .ref mm_off, .ref mm_last, .ref mm_passed, .ref mm_kept, .ref mm_keptMany, .int mm_next, .int mm_passings, .ref mm_history, .ref mm_names, .ref mm_worked, .int mm_workedMany, .int mm_readings, .int mm_knownBy, .ref mm_readThing, .ref mm_readHour, .ref mm_readLow, .ref mm_readHigh, .int mm_hasImage, .int mm_imageNext, .int mm_imagePassings, .ref mm_imageOff, .ref mm_imageLast, .ref mm_imagePassed, .ref mm_imageKept, .ref mm_imageMany, .ref mm_imageHistory])), (mm_tape, .inl (k_mm_tape, 700, .inl f_mm_tape))] sz) mm v0 v1 v2 v3 v4 mm_thrown mm_tape mm_taped mm_number mm_clockName mm_clockOff mm_clockGain mm_clockRough mm_personName mm_personOff mm_personGain mm_personRough mm_custom mm_customA mm_customB mm_ruleFrom mm_ruleTo mm_roundOf mm_roundAt mm_roundHour mm_gunAt mm_gunHour mm_knotSort mm_knotValue mm_lines mm_size mm_at mm_place mm_sort mm_value mm_fault mm_faultPlace mm_lastFault mm_lastPlace mm_open mm_counted mm_tryWhat mm_tryAt mm_rightSet mm_movedThing mm_movedBy mm_oftenClock mm_oftenBy mm_purposePerson mm_purposeClock mm_purposeHour mm_start mm_off mm_last mm_passed mm_kept mm_keptMany mm_next mm_passings mm_history mm_names mm_worked mm_workedMany mm_readings mm_knownBy mm_readThing mm_readHour mm_readLow mm_readHigh mm_hasImage mm_imageNext mm_imagePassings mm_imageOff mm_imageLast mm_imagePassed mm_imageKept mm_imageMany mm_imageHistory k_mm_tape f_mm_tape) 0 0 (va_A [(mm, .inr (11, [.int mm_thrown, .ref mm_tape, .int mm_taped, .ref mm_number, .ref mm_clockName, .ref mm_clockOff, .ref mm_clockGain, .ref mm_clockRough, .ref mm_personName, .ref mm_personOff, .ref mm_personGain, .ref mm_personRough, .ref mm_custom, .ref mm_customA, .ref mm_customB, .ref mm_ruleFrom, .ref mm_ruleTo, .ref mm_roundOf, .ref mm_roundAt, .ref mm_roundHour, .ref mm_gunAt, .ref mm_gunHour, .ref mm_knotSort, .ref mm_knotValue, .int mm_lines, .int mm_size, .int mm_at, .int mm_place, .int mm_sort, .int mm_value, .int mm_fault, .int mm_faultPlace, .int mm_lastFault, .int mm_lastPlace, .int mm_open, .int mm_counted, .int mm_tryWhat, .int mm_tryAt, .int mm_rightSet, .int mm_movedThing, .int mm_movedBy, .int mm_oftenClock, .int mm_oftenBy, .int mm_purposePerson, .int mm_purposeClock, .int mm_purposeHour, .ref mm_start, .ref mm_off, .ref mm_last, .ref mm_passed, .ref mm_kept, .ref mm_keptMany, .int mm_next, .int mm_passings, .ref mm_history, .ref mm_names, .ref mm_worked, .int mm_workedMany, .int mm_readings, .int mm_knownBy, .ref mm_readThing, .ref mm_readHour, .ref mm_readLow, .ref mm_readHigh, .int mm_hasImage, .int mm_imageNext, .int mm_imagePassings, .ref mm_imageOff, .ref mm_imageLast, .ref mm_imagePassed, .ref mm_imageKept, .ref mm_imageMany, .ref mm_imageHistory])), (mm_tape, .inl (k_mm_tape, 700, .inl f_mm_tape))] sz) := by
  refine Met.ofW (cc := cX11_feed) (maxL := 8) (ret := (some .int)) (by decide) rfl ?_
  intro p e s m args below meth c s₁ B hml hv
  obtain ⟨rfl, hsz, hP, hK, hD0⟩ := hv
  have hx := B.exec
  have hb := B.bytes
  have hr := B.returns
  have hts := atoms_spec (ws := (pw_w yX11_feed cX11_feed 8 (some .int))) B.pre
  have hT : ∀ w ∈ pw_T, w.before _ s = true := fun w h => hts w (List.mem_cons_of_mem _ h)
  have hown : s.vm.findClass RX11 = some m.cls := findClass_of_methodNamed B.named
  have hlocks := B.notSynchronized
  subst hsz
  have hD := hD0.self (sz := s.heap.size)
  generalize hAe : va_A [(mm, .inr (11, [.int mm_thrown, .ref mm_tape, .int mm_taped, .ref mm_number, .ref mm_clockName, .ref mm_clockOff, .ref mm_clockGain, .ref mm_clockRough, .ref mm_personName, .ref mm_personOff, .ref mm_personGain, .ref mm_personRough, .ref mm_custom, .ref mm_customA, .ref mm_customB, .ref mm_ruleFrom, .ref mm_ruleTo, .ref mm_roundOf, .ref mm_roundAt, .ref mm_roundHour, .ref mm_gunAt, .ref mm_gunHour, .ref mm_knotSort, .ref mm_knotValue, .int mm_lines, .int mm_size, .int mm_at, .int mm_place, .int mm_sort, .int mm_value, .int mm_fault, .int mm_faultPlace, .int mm_lastFault, .int mm_lastPlace, .int mm_open, .int mm_counted, .int mm_tryWhat, .int mm_tryAt, .int mm_rightSet, .int mm_movedThing, .int mm_movedBy, .int mm_oftenClock, .int mm_oftenBy, .int mm_purposePerson, .int mm_purposeClock, .int mm_purposeHour, .ref mm_start, .ref mm_off, .ref mm_last, .ref mm_passed, .ref mm_kept, .ref mm_keptMany, .int mm_next, .int mm_passings, .ref mm_history, .ref mm_names, .ref mm_worked, .int mm_workedMany, .int mm_readings, .int mm_knownBy, .ref mm_readThing, .ref mm_readHour, .ref mm_readLow, .ref mm_readHigh, .int mm_hasImage, .int mm_imageNext, .int mm_imagePassings, .ref mm_imageOff, .ref mm_imageLast, .ref mm_imagePassed, .ref mm_imageKept, .ref mm_imageMany, .ref mm_imageHistory])), (mm_tape, .inl (k_mm_tape, 700, .inl f_mm_tape))] s.heap.size = A at hD ⊢
  have hA : ∀ q : Nat, s.heap.size ≤ q → A q := fun q h => by rw [← hAe]; exact Or.inr h
  have hS : va_S A s.heap s.heap [] := va_S.rf
  have hP : va_P (dC, dI) vwCl [(mm, .inr (11, [.int mm_thrown, .ref mm_tape, .int mm_taped, .ref mm_number, .ref mm_clockName, .ref mm_clockOff, .ref mm_clockGain, .ref mm_clockRough, .ref mm_personName, .ref mm_personOff, .ref mm_personGain, .ref mm_personRough, .ref mm_custom, .ref mm_customA, .ref mm_customB, .ref mm_ruleFrom, .ref mm_ruleTo, .ref mm_roundOf, .ref mm_roundAt, .ref mm_roundHour, .ref mm_gunAt, .ref mm_gunHour, .ref mm_knotSort, .ref mm_knotValue, .int mm_lines, .int mm_size, .int mm_at, .int mm_place, .int mm_sort, .int mm_value, .int mm_fault, .int mm_faultPlace, .int mm_lastFault, .int mm_lastPlace, .int mm_open, .int mm_counted, .int mm_tryWhat, .int mm_tryAt, .int mm_rightSet, .int mm_movedThing, .int mm_movedBy, .int mm_oftenClock, .int mm_oftenBy, .int mm_purposePerson, .int mm_purposeClock, .int mm_purposeHour, .ref mm_start, .ref mm_off, .ref mm_last, .ref mm_passed, .ref mm_kept, .ref mm_keptMany, .int mm_next, .int mm_passings, .ref mm_history, .ref mm_names, .ref mm_worked, .int mm_workedMany, .int mm_readings, .int mm_knownBy, .ref mm_readThing, .ref mm_readHour, .ref mm_readLow, .ref mm_readHigh, .int mm_hasImage, .int mm_imageNext, .int mm_imagePassings, .ref mm_imageOff, .ref mm_imageLast, .ref mm_imagePassed, .ref mm_imageKept, .ref mm_imageMany, .ref mm_imageHistory])), (mm_tape, .inl (k_mm_tape, 700, .inl f_mm_tape))] s.heap := hP
  have hl := lv_entry ([.ref mm, .int v0, .int v1, .int v2, .int v3, .int v4]) (n := 8) (Nat.le_of_ble_eq_true rfl)
  rw [lg_entry_eq]
  generalize (lg_sl ([.ref mm, .int v0, .int v1, .int v2, .int v3, .int v4]) ++ List.replicate (8 - (lg_sl ([.ref mm, .int v0, .int v1, .int v2, .int v3, .int v4])).length) Slot.unset).toArray = ls at hl ⊢
  have hl : lv_has ls 8 [(0, .ref mm), (1, .int v0), (2, .int v1), (3, .int v2), (4, .int v3), (5, .int v4)] := hl
  refine lv_aload_n hx hb dX11_feed_0 rfl (lv_at hl 0 rfl) ?_
  refine lv_iconst (v := 0) hx hb dX11_feed_1 (by decide) ?_
  refine va_put (D := (dC, dI)) (ci := 11) (v := .int 0) (ty := .int) (C := RX11) (T := TX11) (N := 73) hx hb hT inX11 tyX11 tyX11_ok nmX11 hown hK hP hD hS 0 rfl rfl 0 (by decide) (hT _ mw_6_17) (fun _ h9 => h9) rfl (by decide +kernel) rfl rfl (Nat.le_of_ble_eq_true rfl) dX11_feed_2 (fun H locs hP hD hS => ?_)
  have hP : va_P (dC, dI) vwCl [(mm, .inr (11, [.int 0, .ref mm_tape, .int mm_taped, .ref mm_number, .ref mm_clockName, .ref mm_clockOff, .ref mm_clockGain, .ref mm_clockRough, .ref mm_personName, .ref mm_personOff, .ref mm_personGain, .ref mm_personRough, .ref mm_custom, .ref mm_customA, .ref mm_customB, .ref mm_ruleFrom, .ref mm_ruleTo, .ref mm_roundOf, .ref mm_roundAt, .ref mm_roundHour, .ref mm_gunAt, .ref mm_gunHour, .ref mm_knotSort, .ref mm_knotValue, .int mm_lines, .int mm_size, .int mm_at, .int mm_place, .int mm_sort, .int mm_value, .int mm_fault, .int mm_faultPlace, .int mm_lastFault, .int mm_lastPlace, .int mm_open, .int mm_counted, .int mm_tryWhat, .int mm_tryAt, .int mm_rightSet, .int mm_movedThing, .int mm_movedBy, .int mm_oftenClock, .int mm_oftenBy, .int mm_purposePerson, .int mm_purposeClock, .int mm_purposeHour, .ref mm_start, .ref mm_off, .ref mm_last, .ref mm_passed, .ref mm_kept, .ref mm_keptMany, .int mm_next, .int mm_passings, .ref mm_history, .ref mm_names, .ref mm_worked, .int mm_workedMany, .int mm_readings, .int mm_knownBy, .ref mm_readThing, .ref mm_readHour, .ref mm_readLow, .ref mm_readHigh, .int mm_hasImage, .int mm_imageNext, .int mm_imagePassings, .ref mm_imageOff, .ref mm_imageLast, .ref mm_imagePassed, .ref mm_imageKept, .ref mm_imageMany, .ref mm_imageHistory])), (mm_tape, .inl (k_mm_tape, 700, .inl f_mm_tape))] H := hP
  have hD : va_D A [(mm, .inr (11, [.int 0, .ref mm_tape, .int mm_taped, .ref mm_number, .ref mm_clockName, .ref mm_clockOff, .ref mm_clockGain, .ref mm_clockRough, .ref mm_personName, .ref mm_personOff, .ref mm_personGain, .ref mm_personRough, .ref mm_custom, .ref mm_customA, .ref mm_customB, .ref mm_ruleFrom, .ref mm_ruleTo, .ref mm_roundOf, .ref mm_roundAt, .ref mm_roundHour, .ref mm_gunAt, .ref mm_gunHour, .ref mm_knotSort, .ref mm_knotValue, .int mm_lines, .int mm_size, .int mm_at, .int mm_place, .int mm_sort, .int mm_value, .int mm_fault, .int mm_faultPlace, .int mm_lastFault, .int mm_lastPlace, .int mm_open, .int mm_counted, .int mm_tryWhat, .int mm_tryAt, .int mm_rightSet, .int mm_movedThing, .int mm_movedBy, .int mm_oftenClock, .int mm_oftenBy, .int mm_purposePerson, .int mm_purposeClock, .int mm_purposeHour, .ref mm_start, .ref mm_off, .ref mm_last, .ref mm_passed, .ref mm_kept, .ref mm_keptMany, .int mm_next, .int mm_passings, .ref mm_history, .ref mm_names, .ref mm_worked, .int mm_workedMany, .int mm_readings, .int mm_knownBy, .ref mm_readThing, .ref mm_readHour, .ref mm_readLow, .ref mm_readHigh, .int mm_hasImage, .int mm_imageNext, .int mm_imagePassings, .ref mm_imageOff, .ref mm_imageLast, .ref mm_imagePassed, .ref mm_imageKept, .ref mm_imageMany, .ref mm_imageHistory])), (mm_tape, .inl (k_mm_tape, 700, .inl f_mm_tape))] := hD
  refine lv_aload_n hx hb dX11_feed_5 rfl (lv_at hl 0 rfl) ?_
  refine va_get (D := (dC, dI)) (ci := 11) (v := .int mm_taped) (C := RX11) (T := TX11) (N := 73) hx hb hT inX11 hown hK hP 0 rfl rfl 2 (by decide) (hT _ mw_6_19) (fun _ h9 => h9) rfl dX11_feed_6 ?_
  refine lv_sipush (v := 680) hx hb dX11_feed_9 (by decide) ?_
  refine lv_icmp_le (tgt := 17) hx hb dX11_feed_12 (by decide) (fun c_1 => ?_) (fun c_1 => ?_)
  · have kc_1 := il_le c_1
    have := (by decide : (680 : Int32).toInt = 680)
    refine lv_iconst (v := 0) hx hb dX11_feed_17 (by decide) ?_
    refine lv_istore (lv' := [(6, .int 0), (0, .ref mm), (1, .int v0), (2, .int v1), (3, .int v2), (4, .int v3), (5, .int v4)]) hx hb dX11_feed_18 hl (by decide) rfl (fun ls hl => ?_)
    have loop_51 : ∀ (fu : Nat), ∀ (g_49_l6 : Int32), ∀ (g_49_f1 : Nat → Int32), (0 ≤ g_49_l6.toInt ∧ g_49_l6.toInt ≤ 20) → (Rg g_49_f1 0 255) → (FMq f_mm_tape g_49_f1 mm_taped g_49_l6 v0 v1 v2 v3 v4) → (20 - g_49_l6.toInt < (fu : Int)) → ∀ (H : Heap) (locs : List Loc), va_P (dC, dI) vwCl [(mm, .inr (11, [.int 0, .ref mm_tape, .int mm_taped, .ref mm_number, .ref mm_clockName, .ref mm_clockOff, .ref mm_clockGain, .ref mm_clockRough, .ref mm_personName, .ref mm_personOff, .ref mm_personGain, .ref mm_personRough, .ref mm_custom, .ref mm_customA, .ref mm_customB, .ref mm_ruleFrom, .ref mm_ruleTo, .ref mm_roundOf, .ref mm_roundAt, .ref mm_roundHour, .ref mm_gunAt, .ref mm_gunHour, .ref mm_knotSort, .ref mm_knotValue, .int mm_lines, .int mm_size, .int mm_at, .int mm_place, .int mm_sort, .int mm_value, .int mm_fault, .int mm_faultPlace, .int mm_lastFault, .int mm_lastPlace, .int mm_open, .int mm_counted, .int mm_tryWhat, .int mm_tryAt, .int mm_rightSet, .int mm_movedThing, .int mm_movedBy, .int mm_oftenClock, .int mm_oftenBy, .int mm_purposePerson, .int mm_purposeClock, .int mm_purposeHour, .ref mm_start, .ref mm_off, .ref mm_last, .ref mm_passed, .ref mm_kept, .ref mm_keptMany, .int mm_next, .int mm_passings, .ref mm_history, .ref mm_names, .ref mm_worked, .int mm_workedMany, .int mm_readings, .int mm_knownBy, .ref mm_readThing, .ref mm_readHour, .ref mm_readLow, .ref mm_readHigh, .int mm_hasImage, .int mm_imageNext, .int mm_imagePassings, .ref mm_imageOff, .ref mm_imageLast, .ref mm_imagePassed, .ref mm_imageKept, .ref mm_imageMany, .ref mm_imageHistory])), (mm_tape, .inl (k_mm_tape, 700, .inl g_49_f1))] H → va_D A [(mm, .inr (11, [.int 0, .ref mm_tape, .int mm_taped, .ref mm_number, .ref mm_clockName, .ref mm_clockOff, .ref mm_clockGain, .ref mm_clockRough, .ref mm_personName, .ref mm_personOff, .ref mm_personGain, .ref mm_personRough, .ref mm_custom, .ref mm_customA, .ref mm_customB, .ref mm_ruleFrom, .ref mm_ruleTo, .ref mm_roundOf, .ref mm_roundAt, .ref mm_roundHour, .ref mm_gunAt, .ref mm_gunHour, .ref mm_knotSort, .ref mm_knotValue, .int mm_lines, .int mm_size, .int mm_at, .int mm_place, .int mm_sort, .int mm_value, .int mm_fault, .int mm_faultPlace, .int mm_lastFault, .int mm_lastPlace, .int mm_open, .int mm_counted, .int mm_tryWhat, .int mm_tryAt, .int mm_rightSet, .int mm_movedThing, .int mm_movedBy, .int mm_oftenClock, .int mm_oftenBy, .int mm_purposePerson, .int mm_purposeClock, .int mm_purposeHour, .ref mm_start, .ref mm_off, .ref mm_last, .ref mm_passed, .ref mm_kept, .ref mm_keptMany, .int mm_next, .int mm_passings, .ref mm_history, .ref mm_names, .ref mm_worked, .int mm_workedMany, .int mm_readings, .int mm_knownBy, .ref mm_readThing, .ref mm_readHour, .ref mm_readLow, .ref mm_readHigh, .int mm_hasImage, .int mm_imageNext, .int mm_imagePassings, .ref mm_imageOff, .ref mm_imageLast, .ref mm_imagePassed, .ref mm_imageKept, .ref mm_imageMany, .ref mm_imageHistory])), (mm_tape, .inl (k_mm_tape, 700, .inl g_49_f1))] → va_S A s.heap H locs → ∀ (ls : Array Slot), lv_has ls 8 [(6, .int g_49_l6), (0, .ref mm), (1, .int v0), (2, .int v1), (3, .int v2), (4, .int v3), (5, .int v4)] → W p l e (headSpec (pw_w yX11_feed cX11_feed 8 (some .int)) ({ frames := 0, cells := 0, slots := 0, locals := 0 })).room s m ([.ref mm, .int v0, .int v1, .int v2, .int v3, .int v4] : List Value).toArray below meth c H locs 0 0 (MQ below (q_X11_feed dC dI A mm v0 v1 v2 v3 v4 mm_thrown mm_tape mm_taped mm_number mm_clockName mm_clockOff mm_clockGain mm_clockRough mm_personName mm_personOff mm_personGain mm_personRough mm_custom mm_customA mm_customB mm_ruleFrom mm_ruleTo mm_roundOf mm_roundAt mm_roundHour mm_gunAt mm_gunHour mm_knotSort mm_knotValue mm_lines mm_size mm_at mm_place mm_sort mm_value mm_fault mm_faultPlace mm_lastFault mm_lastPlace mm_open mm_counted mm_tryWhat mm_tryAt mm_rightSet mm_movedThing mm_movedBy mm_oftenClock mm_oftenBy mm_purposePerson mm_purposeClock mm_purposeHour mm_start mm_off mm_last mm_passed mm_kept mm_keptMany mm_next mm_passings mm_history mm_names mm_worked mm_workedMany mm_readings mm_knownBy mm_readThing mm_readHour mm_readLow mm_readHigh mm_hasImage mm_imageNext mm_imagePassings mm_imageOff mm_imageLast mm_imagePassed mm_imageKept mm_imageMany mm_imageHistory k_mm_tape f_mm_tape) ([.ref mm, .int v0, .int v1, .int v2, .int v3, .int v4] : List Value).toArray s 0 0 A) (F0 m 20 ls []) := by
      intro fu
      induction fu with
      | zero => intro g_49_l6 g_49_f1 hg_49_l6 hg_49_f1 hi_fm_q_50 hfu; exact absurd hfu (by omega)
      | succ fu51 ih51 =>
        intro g_49_l6 g_49_f1 hg_49_l6 hg_49_f1 hi_fm_q_50 hfu51 H locs hP hD hS ls hl
        refine lv_iload hx hb dX11_feed_20 (lv_at hl 0 rfl) ?_
        refine lv_bipush (v := 20) hx hb dX11_feed_22 (by decide) ?_
        refine lv_icmp_ge (tgt := 110) hx hb dX11_feed_24 (by decide) (fun c_52 => ?_) (fun c_52 => ?_)
        · have kc_52 := il_le c_52
          have := (by decide : (20 : Int32).toInt = 20)
          refine lv_aload_n hx hb dX11_feed_110 rfl (lv_at hl 1 rfl) ?_
          refine lv_dup hx hb dX11_feed_111 rfl ?_
          refine va_get (D := (dC, dI)) (ci := 11) (v := .int mm_taped) (C := RX11) (T := TX11) (N := 73) hx hb hT inX11 hown hK hP 0 rfl rfl 2 (by decide) (hT _ mw_6_19) (fun _ h9 => h9) rfl dX11_feed_112 ?_
          refine lv_bipush (v := 20) hx hb dX11_feed_115 (by decide) ?_
          refine lv_iadd hx hb dX11_feed_117 ?_
          refine lv_topi (fun z_53 ez_53 => ?_)
          have kz_53 : z_53.toInt = mm_taped.toInt + 20 := ti_add ez_53 rfl (by decide) (by omega) (by omega)
          clear ez_53
          refine va_put (D := (dC, dI)) (ci := 11) (v := .int z_53) (ty := .int) (C := RX11) (T := TX11) (N := 73) hx hb hT inX11 tyX11 tyX11_ok nmX11 hown hK hP hD hS 0 rfl rfl 2 (by decide) (hT _ mw_6_19) (fun _ h9 => h9) rfl (by decide +kernel) rfl rfl (Nat.le_of_ble_eq_true rfl) dX11_feed_118 (fun H locs hP hD hS => ?_)
          have hP : va_P (dC, dI) vwCl [(mm, .inr (11, [.int 0, .ref mm_tape, .int z_53, .ref mm_number, .ref mm_clockName, .ref mm_clockOff, .ref mm_clockGain, .ref mm_clockRough, .ref mm_personName, .ref mm_personOff, .ref mm_personGain, .ref mm_personRough, .ref mm_custom, .ref mm_customA, .ref mm_customB, .ref mm_ruleFrom, .ref mm_ruleTo, .ref mm_roundOf, .ref mm_roundAt, .ref mm_roundHour, .ref mm_gunAt, .ref mm_gunHour, .ref mm_knotSort, .ref mm_knotValue, .int mm_lines, .int mm_size, .int mm_at, .int mm_place, .int mm_sort, .int mm_value, .int mm_fault, .int mm_faultPlace, .int mm_lastFault, .int mm_lastPlace, .int mm_open, .int mm_counted, .int mm_tryWhat, .int mm_tryAt, .int mm_rightSet, .int mm_movedThing, .int mm_movedBy, .int mm_oftenClock, .int mm_oftenBy, .int mm_purposePerson, .int mm_purposeClock, .int mm_purposeHour, .ref mm_start, .ref mm_off, .ref mm_last, .ref mm_passed, .ref mm_kept, .ref mm_keptMany, .int mm_next, .int mm_passings, .ref mm_history, .ref mm_names, .ref mm_worked, .int mm_workedMany, .int mm_readings, .int mm_knownBy, .ref mm_readThing, .ref mm_readHour, .ref mm_readLow, .ref mm_readHigh, .int mm_hasImage, .int mm_imageNext, .int mm_imagePassings, .ref mm_imageOff, .ref mm_imageLast, .ref mm_imagePassed, .ref mm_imageKept, .ref mm_imageMany, .ref mm_imageHistory])), (mm_tape, .inl (k_mm_tape, 700, .inl g_49_f1))] H := hP
          have hD : va_D A [(mm, .inr (11, [.int 0, .ref mm_tape, .int z_53, .ref mm_number, .ref mm_clockName, .ref mm_clockOff, .ref mm_clockGain, .ref mm_clockRough, .ref mm_personName, .ref mm_personOff, .ref mm_personGain, .ref mm_personRough, .ref mm_custom, .ref mm_customA, .ref mm_customB, .ref mm_ruleFrom, .ref mm_ruleTo, .ref mm_roundOf, .ref mm_roundAt, .ref mm_roundHour, .ref mm_gunAt, .ref mm_gunHour, .ref mm_knotSort, .ref mm_knotValue, .int mm_lines, .int mm_size, .int mm_at, .int mm_place, .int mm_sort, .int mm_value, .int mm_fault, .int mm_faultPlace, .int mm_lastFault, .int mm_lastPlace, .int mm_open, .int mm_counted, .int mm_tryWhat, .int mm_tryAt, .int mm_rightSet, .int mm_movedThing, .int mm_movedBy, .int mm_oftenClock, .int mm_oftenBy, .int mm_purposePerson, .int mm_purposeClock, .int mm_purposeHour, .ref mm_start, .ref mm_off, .ref mm_last, .ref mm_passed, .ref mm_kept, .ref mm_keptMany, .int mm_next, .int mm_passings, .ref mm_history, .ref mm_names, .ref mm_worked, .int mm_workedMany, .int mm_readings, .int mm_knownBy, .ref mm_readThing, .ref mm_readHour, .ref mm_readLow, .ref mm_readHigh, .int mm_hasImage, .int mm_imageNext, .int mm_imagePassings, .ref mm_imageOff, .ref mm_imageLast, .ref mm_imagePassed, .ref mm_imageKept, .ref mm_imageMany, .ref mm_imageHistory])), (mm_tape, .inl (k_mm_tape, 700, .inl g_49_f1))] := hD
          refine lv_aload_n hx hb dX11_feed_121 rfl (lv_at hl 1 rfl) ?_
          refine va_get (D := (dC, dI)) (ci := 11) (v := .int z_53) (C := RX11) (T := TX11) (N := 73) hx hb hT inX11 hown hK hP 0 rfl rfl 2 (by decide) (hT _ mw_6_19) (fun _ h9 => h9) rfl dX11_feed_122 ?_
          have hP9 := hP.sub (ws' := [(mm, .inr (11, [.int 0, .ref mm_tape, .int z_53, .ref mm_number, .ref mm_clockName, .ref mm_clockOff, .ref mm_clockGain, .ref mm_clockRough, .ref mm_personName, .ref mm_personOff, .ref mm_personGain, .ref mm_personRough, .ref mm_custom, .ref mm_customA, .ref mm_customB, .ref mm_ruleFrom, .ref mm_ruleTo, .ref mm_roundOf, .ref mm_roundAt, .ref mm_roundHour, .ref mm_gunAt, .ref mm_gunHour, .ref mm_knotSort, .ref mm_knotValue, .int mm_lines, .int mm_size, .int mm_at, .int mm_place, .int mm_sort, .int mm_value, .int mm_fault, .int mm_faultPlace, .int mm_lastFault, .int mm_lastPlace, .int mm_open, .int mm_counted, .int mm_tryWhat, .int mm_tryAt, .int mm_rightSet, .int mm_movedThing, .int mm_movedBy, .int mm_oftenClock, .int mm_oftenBy, .int mm_purposePerson, .int mm_purposeClock, .int mm_purposeHour, .ref mm_start, .ref mm_off, .ref mm_last, .ref mm_passed, .ref mm_kept, .ref mm_keptMany, .int mm_next, .int mm_passings, .ref mm_history, .ref mm_names, .ref mm_worked, .int mm_workedMany, .int mm_readings, .int mm_knownBy, .ref mm_readThing, .ref mm_readHour, .ref mm_readLow, .ref mm_readHigh, .int mm_hasImage, .int mm_imageNext, .int mm_imagePassings, .ref mm_imageOff, .ref mm_imageLast, .ref mm_imagePassed, .ref mm_imageKept, .ref mm_imageMany, .ref mm_imageHistory])), (mm_tape, .inl (k_mm_tape, 700, .inl g_49_f1))]) [0, 1] rfl
          have hD9 := hD.sub (ws' := [(mm, .inr (11, [.int 0, .ref mm_tape, .int z_53, .ref mm_number, .ref mm_clockName, .ref mm_clockOff, .ref mm_clockGain, .ref mm_clockRough, .ref mm_personName, .ref mm_personOff, .ref mm_personGain, .ref mm_personRough, .ref mm_custom, .ref mm_customA, .ref mm_customB, .ref mm_ruleFrom, .ref mm_ruleTo, .ref mm_roundOf, .ref mm_roundAt, .ref mm_roundHour, .ref mm_gunAt, .ref mm_gunHour, .ref mm_knotSort, .ref mm_knotValue, .int mm_lines, .int mm_size, .int mm_at, .int mm_place, .int mm_sort, .int mm_value, .int mm_fault, .int mm_faultPlace, .int mm_lastFault, .int mm_lastPlace, .int mm_open, .int mm_counted, .int mm_tryWhat, .int mm_tryAt, .int mm_rightSet, .int mm_movedThing, .int mm_movedBy, .int mm_oftenClock, .int mm_oftenBy, .int mm_purposePerson, .int mm_purposeClock, .int mm_purposeHour, .ref mm_start, .ref mm_off, .ref mm_last, .ref mm_passed, .ref mm_kept, .ref mm_keptMany, .int mm_next, .int mm_passings, .ref mm_history, .ref mm_names, .ref mm_worked, .int mm_workedMany, .int mm_readings, .int mm_knownBy, .ref mm_readThing, .ref mm_readHour, .ref mm_readLow, .ref mm_readHigh, .int mm_hasImage, .int mm_imageNext, .int mm_imagePassings, .ref mm_imageOff, .ref mm_imageLast, .ref mm_imagePassed, .ref mm_imageKept, .ref mm_imageMany, .ref mm_imageHistory])), (mm_tape, .inl (k_mm_tape, 700, .inl g_49_f1))]) [0, 1] (by decide) rfl
          exact W.iret (v := z_53) hx hb hr (fun t ht hW => ⟨⟨z_53, (), rfl, (by first | omega | (refine ⟨?_, ?_⟩ <;> omega) | rfl | (intros; omega)), (0 : Int32), z_53, g_49_f1, (by omega), hg_49_f1, (by omega), (Or.inr ⟨(by omega), FMq_e hi_fm_q_50 (by omega)⟩), by rw [ht]; exact hP9, hD9⟩, hS.F ht⟩) hS.2.2 dX11_feed_125
        · have kc_52 := il_nle c_52
          have := (by decide : (20 : Int32).toInt = 20)
          refine lv_iload hx hb dX11_feed_27 (lv_at hl 0 rfl) ?_
          refine lv_iconst (v := 4) hx hb dX11_feed_29 (by decide) ?_
          refine lv_icmp_ge (tgt := 37) hx hb dX11_feed_30 (by decide) (fun c_54 => ?_) (fun c_54 => ?_)
          · have kc_54 := il_le c_54
            have := (by decide : (4 : Int32).toInt = 4)
            refine lv_iload hx hb dX11_feed_37 (lv_at hl 0 rfl) ?_
            refine lv_bipush (v := 8) hx hb dX11_feed_39 (by decide) ?_
            refine lv_icmp_ge (tgt := 48) hx hb dX11_feed_41 (by decide) (fun c_55 => ?_) (fun c_55 => ?_)
            · have kc_55 := il_le c_55
              have := (by decide : (8 : Int32).toInt = 8)
              refine lv_iload hx hb dX11_feed_48 (lv_at hl 0 rfl) ?_
              refine lv_bipush (v := 12) hx hb dX11_feed_50 (by decide) ?_
              refine lv_icmp_ge (tgt := 59) hx hb dX11_feed_52 (by decide) (fun c_56 => ?_) (fun c_56 => ?_)
              · have kc_56 := il_le c_56
                have := (by decide : (12 : Int32).toInt = 12)
                refine lv_iload hx hb dX11_feed_59 (lv_at hl 0 rfl) ?_
                refine lv_bipush (v := 16) hx hb dX11_feed_61 (by decide) ?_
                refine lv_icmp_ge (tgt := 71) hx hb dX11_feed_63 (by decide) (fun c_57 => ?_) (fun c_57 => ?_)
                · have kc_57 := il_le c_57
                  have := (by decide : (16 : Int32).toInt = 16)
                  refine lv_iload hx hb dX11_feed_71 (lv_at hl 6 rfl) ?_
                  refine lv_istore (lv' := [(7, .int v4), (6, .int g_49_l6), (0, .ref mm), (1, .int v0), (2, .int v1), (3, .int v2), (4, .int v3), (5, .int v4)]) hx hb dX11_feed_73 hl (by decide) rfl (fun ls hl => ?_)
                  refine lv_aload_n hx hb dX11_feed_75 rfl (lv_at hl 2 rfl) ?_
                  refine va_get (D := (dC, dI)) (ci := 11) (v := .ref mm_tape) (C := RX11) (T := TX11) (N := 73) hx hb hT inX11 hown hK hP 0 rfl rfl 1 (by decide) (hT _ mw_6_18) (fun _ h9 => h9) rfl dX11_feed_76 ?_
                  refine lv_aload_n hx hb dX11_feed_79 rfl (lv_at hl 2 rfl) ?_
                  refine va_get (D := (dC, dI)) (ci := 11) (v := .int mm_taped) (C := RX11) (T := TX11) (N := 73) hx hb hT inX11 hown hK hP 0 rfl rfl 2 (by decide) (hT _ mw_6_19) (fun _ h9 => h9) rfl dX11_feed_80 ?_
                  refine lv_iload hx hb dX11_feed_83 (lv_at hl 1 rfl) ?_
                  refine lv_iadd hx hb dX11_feed_85 ?_
                  refine lv_topi (fun z_58 ez_58 => ?_)
                  have kz_58 : z_58.toInt = mm_taped.toInt + g_49_l6.toInt := ti_add ez_58 rfl rfl (by omega) (by omega)
                  clear ez_58
                  refine lv_iload hx hb dX11_feed_86 (lv_at hl 0 rfl) ?_
                  refine lv_bipush (v := 24) hx hb dX11_feed_88 (by decide) ?_
                  refine lv_bipush (v := 8) hx hb dX11_feed_90 (by decide) ?_
                  refine lv_iload hx hb dX11_feed_92 (lv_at hl 1 rfl) ?_
                  refine lv_iconst (v := 4) hx hb dX11_feed_94 (by decide) ?_
                  refine lv_irem hx hb dX11_feed_95 (by decide) ?_
                  refine lv_topi (fun z_59 ez_59 => ?_)
                  have kz_59 : z_59.toInt = g_49_l6.toInt % 4 := ti_rem ez_59 rfl (by decide) (by omega) (by decide)
                  clear ez_59
                  refine lv_imul hx hb dX11_feed_96 ?_
                  refine lv_topi (fun z_60 ez_60 => ?_)
                  have kz_60 : z_60.toInt = 8 * z_59.toInt := ti_mul ez_60 (by decide) rfl (by omega) (by omega)
                  clear ez_60
                  refine lv_isub hx hb dX11_feed_97 ?_
                  refine lv_topi (fun z_61 ez_61 => ?_)
                  have kz_61 : z_61.toInt = 24 - z_60.toInt := ti_sub ez_61 (by decide) rfl (by omega) (by omega)
                  clear ez_61
                  refine lv_ishr hx hb dX11_feed_98 ?_
                  refine lv_topi (fun z_62 ez_62 => ?_)
                  refine lv_sipush (v := 255) hx hb dX11_feed_99 (by decide) ?_
                  refine lv_iand hx hb dX11_feed_102 ?_
                  refine lv_topi (fun z_63 ez_63 => ?_)
                  have kz_63 : 0 ≤ z_63.toInt ∧ z_63.toInt ≤ 255 := ti_and ez_63 (by decide)
                  refine va_iast hx hb hK hP hD hS 1 0 rfl rfl (vp_in_iff.mpr (by omega)) dX11_feed_103 (fun H locs hP hD hS => ?_)
                  have hP : va_P (dC, dI) vwCl [(mm, .inr (11, [.int 0, .ref mm_tape, .int mm_taped, .ref mm_number, .ref mm_clockName, .ref mm_clockOff, .ref mm_clockGain, .ref mm_clockRough, .ref mm_personName, .ref mm_personOff, .ref mm_personGain, .ref mm_personRough, .ref mm_custom, .ref mm_customA, .ref mm_customB, .ref mm_ruleFrom, .ref mm_ruleTo, .ref mm_roundOf, .ref mm_roundAt, .ref mm_roundHour, .ref mm_gunAt, .ref mm_gunHour, .ref mm_knotSort, .ref mm_knotValue, .int mm_lines, .int mm_size, .int mm_at, .int mm_place, .int mm_sort, .int mm_value, .int mm_fault, .int mm_faultPlace, .int mm_lastFault, .int mm_lastPlace, .int mm_open, .int mm_counted, .int mm_tryWhat, .int mm_tryAt, .int mm_rightSet, .int mm_movedThing, .int mm_movedBy, .int mm_oftenClock, .int mm_oftenBy, .int mm_purposePerson, .int mm_purposeClock, .int mm_purposeHour, .ref mm_start, .ref mm_off, .ref mm_last, .ref mm_passed, .ref mm_kept, .ref mm_keptMany, .int mm_next, .int mm_passings, .ref mm_history, .ref mm_names, .ref mm_worked, .int mm_workedMany, .int mm_readings, .int mm_knownBy, .ref mm_readThing, .ref mm_readHour, .ref mm_readLow, .ref mm_readHigh, .int mm_hasImage, .int mm_imageNext, .int mm_imagePassings, .ref mm_imageOff, .ref mm_imageLast, .ref mm_imagePassed, .ref mm_imageKept, .ref mm_imageMany, .ref mm_imageHistory])), (mm_tape, .inl (k_mm_tape, 700, .inl (upd g_49_f1 (z_58 : Int32).toNatClampNeg (z_63 : Int32))))] H := hP
                  have hD : va_D A [(mm, .inr (11, [.int 0, .ref mm_tape, .int mm_taped, .ref mm_number, .ref mm_clockName, .ref mm_clockOff, .ref mm_clockGain, .ref mm_clockRough, .ref mm_personName, .ref mm_personOff, .ref mm_personGain, .ref mm_personRough, .ref mm_custom, .ref mm_customA, .ref mm_customB, .ref mm_ruleFrom, .ref mm_ruleTo, .ref mm_roundOf, .ref mm_roundAt, .ref mm_roundHour, .ref mm_gunAt, .ref mm_gunHour, .ref mm_knotSort, .ref mm_knotValue, .int mm_lines, .int mm_size, .int mm_at, .int mm_place, .int mm_sort, .int mm_value, .int mm_fault, .int mm_faultPlace, .int mm_lastFault, .int mm_lastPlace, .int mm_open, .int mm_counted, .int mm_tryWhat, .int mm_tryAt, .int mm_rightSet, .int mm_movedThing, .int mm_movedBy, .int mm_oftenClock, .int mm_oftenBy, .int mm_purposePerson, .int mm_purposeClock, .int mm_purposeHour, .ref mm_start, .ref mm_off, .ref mm_last, .ref mm_passed, .ref mm_kept, .ref mm_keptMany, .int mm_next, .int mm_passings, .ref mm_history, .ref mm_names, .ref mm_worked, .int mm_workedMany, .int mm_readings, .int mm_knownBy, .ref mm_readThing, .ref mm_readHour, .ref mm_readLow, .ref mm_readHigh, .int mm_hasImage, .int mm_imageNext, .int mm_imagePassings, .ref mm_imageOff, .ref mm_imageLast, .ref mm_imagePassed, .ref mm_imageKept, .ref mm_imageMany, .ref mm_imageHistory])), (mm_tape, .inl (k_mm_tape, 700, .inl (upd g_49_f1 (z_58 : Int32).toNatClampNeg (z_63 : Int32))))] := hD
                  obtain ⟨f_64, hf_64, ef_64⟩ : ∃ g : Nat → Int32, Rg g 0 255 ∧ (upd g_49_f1 (z_58 : Int32).toNatClampNeg (z_63 : Int32)) = g := ⟨_, Rg_upd hg_49_f1 (by omega), rfl⟩
                  rw [ef_64] at hP hD
                  obtain ⟨z_65, ez_65⟩ : ∃ y : Int32, y = g_49_l6 + Int32.ofInt (1) := ⟨_, rfl⟩
                  have kz_65 : z_65.toInt = g_49_l6.toInt + (1) := ti_add ez_65 rfl (by decide) (by omega) (by omega)
                  refine lv_iinc (v := z_65) (lv' := [(6, .int z_65), (7, .int v4), (0, .ref mm), (1, .int v0), (2, .int v1), (3, .int v2), (4, .int v3), (5, .int v4)]) hx hb dX11_feed_104 hl (k := 1) rfl (ez_65.symm) (by decide) rfl (fun ls hl => ?_)
                  clear ez_65
                  refine lv_goto (tgt := 20) hx hb dX11_feed_107 (by decide) ?_
                  exact ih51 z_65 f_64 (by omega) hf_64 (FMq_s hi_fm_q_50 (fv_4 (by omega)) (by omega) ez_62 ez_63 ef_64 (by omega) (by omega) (by omega) (by omega)) (by omega) _ _ (hP.sub [0, 1] rfl) (hD.sub [0, 1] (by decide) rfl) hS _ (lv_sub hl [0, 2, 3, 4, 5, 6, 7] rfl)
                · have kc_57 := il_nle c_57
                  have := (by decide : (16 : Int32).toInt = 16)
                  refine lv_iload hx hb dX11_feed_66 (lv_at hl 5 rfl) ?_
                  refine lv_goto (tgt := 73) hx hb dX11_feed_68 (by decide) ?_
                  refine lv_istore (lv' := [(7, .int v3), (6, .int g_49_l6), (0, .ref mm), (1, .int v0), (2, .int v1), (3, .int v2), (4, .int v3), (5, .int v4)]) hx hb dX11_feed_73 hl (by decide) rfl (fun ls hl => ?_)
                  refine lv_aload_n hx hb dX11_feed_75 rfl (lv_at hl 2 rfl) ?_
                  refine va_get (D := (dC, dI)) (ci := 11) (v := .ref mm_tape) (C := RX11) (T := TX11) (N := 73) hx hb hT inX11 hown hK hP 0 rfl rfl 1 (by decide) (hT _ mw_6_18) (fun _ h9 => h9) rfl dX11_feed_76 ?_
                  refine lv_aload_n hx hb dX11_feed_79 rfl (lv_at hl 2 rfl) ?_
                  refine va_get (D := (dC, dI)) (ci := 11) (v := .int mm_taped) (C := RX11) (T := TX11) (N := 73) hx hb hT inX11 hown hK hP 0 rfl rfl 2 (by decide) (hT _ mw_6_19) (fun _ h9 => h9) rfl dX11_feed_80 ?_
                  refine lv_iload hx hb dX11_feed_83 (lv_at hl 1 rfl) ?_
                  refine lv_iadd hx hb dX11_feed_85 ?_
                  refine lv_topi (fun z_66 ez_66 => ?_)
                  have kz_66 : z_66.toInt = mm_taped.toInt + g_49_l6.toInt := ti_add ez_66 rfl rfl (by omega) (by omega)
                  clear ez_66
                  refine lv_iload hx hb dX11_feed_86 (lv_at hl 0 rfl) ?_
                  refine lv_bipush (v := 24) hx hb dX11_feed_88 (by decide) ?_
                  refine lv_bipush (v := 8) hx hb dX11_feed_90 (by decide) ?_
                  refine lv_iload hx hb dX11_feed_92 (lv_at hl 1 rfl) ?_
                  refine lv_iconst (v := 4) hx hb dX11_feed_94 (by decide) ?_
                  refine lv_irem hx hb dX11_feed_95 (by decide) ?_
                  refine lv_topi (fun z_67 ez_67 => ?_)
                  have kz_67 : z_67.toInt = g_49_l6.toInt % 4 := ti_rem ez_67 rfl (by decide) (by omega) (by decide)
                  clear ez_67
                  refine lv_imul hx hb dX11_feed_96 ?_
                  refine lv_topi (fun z_68 ez_68 => ?_)
                  have kz_68 : z_68.toInt = 8 * z_67.toInt := ti_mul ez_68 (by decide) rfl (by omega) (by omega)
                  clear ez_68
                  refine lv_isub hx hb dX11_feed_97 ?_
                  refine lv_topi (fun z_69 ez_69 => ?_)
                  have kz_69 : z_69.toInt = 24 - z_68.toInt := ti_sub ez_69 (by decide) rfl (by omega) (by omega)
                  clear ez_69
                  refine lv_ishr hx hb dX11_feed_98 ?_
                  refine lv_topi (fun z_70 ez_70 => ?_)
                  refine lv_sipush (v := 255) hx hb dX11_feed_99 (by decide) ?_
                  refine lv_iand hx hb dX11_feed_102 ?_
                  refine lv_topi (fun z_71 ez_71 => ?_)
                  have kz_71 : 0 ≤ z_71.toInt ∧ z_71.toInt ≤ 255 := ti_and ez_71 (by decide)
                  refine va_iast hx hb hK hP hD hS 1 0 rfl rfl (vp_in_iff.mpr (by omega)) dX11_feed_103 (fun H locs hP hD hS => ?_)
                  have hP : va_P (dC, dI) vwCl [(mm, .inr (11, [.int 0, .ref mm_tape, .int mm_taped, .ref mm_number, .ref mm_clockName, .ref mm_clockOff, .ref mm_clockGain, .ref mm_clockRough, .ref mm_personName, .ref mm_personOff, .ref mm_personGain, .ref mm_personRough, .ref mm_custom, .ref mm_customA, .ref mm_customB, .ref mm_ruleFrom, .ref mm_ruleTo, .ref mm_roundOf, .ref mm_roundAt, .ref mm_roundHour, .ref mm_gunAt, .ref mm_gunHour, .ref mm_knotSort, .ref mm_knotValue, .int mm_lines, .int mm_size, .int mm_at, .int mm_place, .int mm_sort, .int mm_value, .int mm_fault, .int mm_faultPlace, .int mm_lastFault, .int mm_lastPlace, .int mm_open, .int mm_counted, .int mm_tryWhat, .int mm_tryAt, .int mm_rightSet, .int mm_movedThing, .int mm_movedBy, .int mm_oftenClock, .int mm_oftenBy, .int mm_purposePerson, .int mm_purposeClock, .int mm_purposeHour, .ref mm_start, .ref mm_off, .ref mm_last, .ref mm_passed, .ref mm_kept, .ref mm_keptMany, .int mm_next, .int mm_passings, .ref mm_history, .ref mm_names, .ref mm_worked, .int mm_workedMany, .int mm_readings, .int mm_knownBy, .ref mm_readThing, .ref mm_readHour, .ref mm_readLow, .ref mm_readHigh, .int mm_hasImage, .int mm_imageNext, .int mm_imagePassings, .ref mm_imageOff, .ref mm_imageLast, .ref mm_imagePassed, .ref mm_imageKept, .ref mm_imageMany, .ref mm_imageHistory])), (mm_tape, .inl (k_mm_tape, 700, .inl (upd g_49_f1 (z_66 : Int32).toNatClampNeg (z_71 : Int32))))] H := hP
                  have hD : va_D A [(mm, .inr (11, [.int 0, .ref mm_tape, .int mm_taped, .ref mm_number, .ref mm_clockName, .ref mm_clockOff, .ref mm_clockGain, .ref mm_clockRough, .ref mm_personName, .ref mm_personOff, .ref mm_personGain, .ref mm_personRough, .ref mm_custom, .ref mm_customA, .ref mm_customB, .ref mm_ruleFrom, .ref mm_ruleTo, .ref mm_roundOf, .ref mm_roundAt, .ref mm_roundHour, .ref mm_gunAt, .ref mm_gunHour, .ref mm_knotSort, .ref mm_knotValue, .int mm_lines, .int mm_size, .int mm_at, .int mm_place, .int mm_sort, .int mm_value, .int mm_fault, .int mm_faultPlace, .int mm_lastFault, .int mm_lastPlace, .int mm_open, .int mm_counted, .int mm_tryWhat, .int mm_tryAt, .int mm_rightSet, .int mm_movedThing, .int mm_movedBy, .int mm_oftenClock, .int mm_oftenBy, .int mm_purposePerson, .int mm_purposeClock, .int mm_purposeHour, .ref mm_start, .ref mm_off, .ref mm_last, .ref mm_passed, .ref mm_kept, .ref mm_keptMany, .int mm_next, .int mm_passings, .ref mm_history, .ref mm_names, .ref mm_worked, .int mm_workedMany, .int mm_readings, .int mm_knownBy, .ref mm_readThing, .ref mm_readHour, .ref mm_readLow, .ref mm_readHigh, .int mm_hasImage, .int mm_imageNext, .int mm_imagePassings, .ref mm_imageOff, .ref mm_imageLast, .ref mm_imagePassed, .ref mm_imageKept, .ref mm_imageMany, .ref mm_imageHistory])), (mm_tape, .inl (k_mm_tape, 700, .inl (upd g_49_f1 (z_66 : Int32).toNatClampNeg (z_71 : Int32))))] := hD
                  obtain ⟨f_72, hf_72, ef_72⟩ : ∃ g : Nat → Int32, Rg g 0 255 ∧ (upd g_49_f1 (z_66 : Int32).toNatClampNeg (z_71 : Int32)) = g := ⟨_, Rg_upd hg_49_f1 (by omega), rfl⟩
                  rw [ef_72] at hP hD
                  obtain ⟨z_73, ez_73⟩ : ∃ y : Int32, y = g_49_l6 + Int32.ofInt (1) := ⟨_, rfl⟩
                  have kz_73 : z_73.toInt = g_49_l6.toInt + (1) := ti_add ez_73 rfl (by decide) (by omega) (by omega)
                  refine lv_iinc (v := z_73) (lv' := [(6, .int z_73), (7, .int v3), (0, .ref mm), (1, .int v0), (2, .int v1), (3, .int v2), (4, .int v3), (5, .int v4)]) hx hb dX11_feed_104 hl (k := 1) rfl (ez_73.symm) (by decide) rfl (fun ls hl => ?_)
                  clear ez_73
                  refine lv_goto (tgt := 20) hx hb dX11_feed_107 (by decide) ?_
                  exact ih51 z_73 f_72 (by omega) hf_72 (FMq_s hi_fm_q_50 (fv_3 (by omega) (by omega)) (by omega) ez_70 ez_71 ef_72 (by omega) (by omega) (by omega) (by omega)) (by omega) _ _ (hP.sub [0, 1] rfl) (hD.sub [0, 1] (by decide) rfl) hS _ (lv_sub hl [0, 2, 3, 4, 5, 6, 7] rfl)
              · have kc_56 := il_nle c_56
                have := (by decide : (12 : Int32).toInt = 12)
                refine lv_iload_n hx hb dX11_feed_55 rfl (lv_at hl 4 rfl) ?_
                refine lv_goto (tgt := 73) hx hb dX11_feed_56 (by decide) ?_
                refine lv_istore (lv' := [(7, .int v2), (6, .int g_49_l6), (0, .ref mm), (1, .int v0), (2, .int v1), (3, .int v2), (4, .int v3), (5, .int v4)]) hx hb dX11_feed_73 hl (by decide) rfl (fun ls hl => ?_)
                refine lv_aload_n hx hb dX11_feed_75 rfl (lv_at hl 2 rfl) ?_
                refine va_get (D := (dC, dI)) (ci := 11) (v := .ref mm_tape) (C := RX11) (T := TX11) (N := 73) hx hb hT inX11 hown hK hP 0 rfl rfl 1 (by decide) (hT _ mw_6_18) (fun _ h9 => h9) rfl dX11_feed_76 ?_
                refine lv_aload_n hx hb dX11_feed_79 rfl (lv_at hl 2 rfl) ?_
                refine va_get (D := (dC, dI)) (ci := 11) (v := .int mm_taped) (C := RX11) (T := TX11) (N := 73) hx hb hT inX11 hown hK hP 0 rfl rfl 2 (by decide) (hT _ mw_6_19) (fun _ h9 => h9) rfl dX11_feed_80 ?_
                refine lv_iload hx hb dX11_feed_83 (lv_at hl 1 rfl) ?_
                refine lv_iadd hx hb dX11_feed_85 ?_
                refine lv_topi (fun z_74 ez_74 => ?_)
                have kz_74 : z_74.toInt = mm_taped.toInt + g_49_l6.toInt := ti_add ez_74 rfl rfl (by omega) (by omega)
                clear ez_74
                refine lv_iload hx hb dX11_feed_86 (lv_at hl 0 rfl) ?_
                refine lv_bipush (v := 24) hx hb dX11_feed_88 (by decide) ?_
                refine lv_bipush (v := 8) hx hb dX11_feed_90 (by decide) ?_
                refine lv_iload hx hb dX11_feed_92 (lv_at hl 1 rfl) ?_
                refine lv_iconst (v := 4) hx hb dX11_feed_94 (by decide) ?_
                refine lv_irem hx hb dX11_feed_95 (by decide) ?_
                refine lv_topi (fun z_75 ez_75 => ?_)
                have kz_75 : z_75.toInt = g_49_l6.toInt % 4 := ti_rem ez_75 rfl (by decide) (by omega) (by decide)
                clear ez_75
                refine lv_imul hx hb dX11_feed_96 ?_
                refine lv_topi (fun z_76 ez_76 => ?_)
                have kz_76 : z_76.toInt = 8 * z_75.toInt := ti_mul ez_76 (by decide) rfl (by omega) (by omega)
                clear ez_76
                refine lv_isub hx hb dX11_feed_97 ?_
                refine lv_topi (fun z_77 ez_77 => ?_)
                have kz_77 : z_77.toInt = 24 - z_76.toInt := ti_sub ez_77 (by decide) rfl (by omega) (by omega)
                clear ez_77
                refine lv_ishr hx hb dX11_feed_98 ?_
                refine lv_topi (fun z_78 ez_78 => ?_)
                refine lv_sipush (v := 255) hx hb dX11_feed_99 (by decide) ?_
                refine lv_iand hx hb dX11_feed_102 ?_
                refine lv_topi (fun z_79 ez_79 => ?_)
                have kz_79 : 0 ≤ z_79.toInt ∧ z_79.toInt ≤ 255 := ti_and ez_79 (by decide)
                refine va_iast hx hb hK hP hD hS 1 0 rfl rfl (vp_in_iff.mpr (by omega)) dX11_feed_103 (fun H locs hP hD hS => ?_)
                have hP : va_P (dC, dI) vwCl [(mm, .inr (11, [.int 0, .ref mm_tape, .int mm_taped, .ref mm_number, .ref mm_clockName, .ref mm_clockOff, .ref mm_clockGain, .ref mm_clockRough, .ref mm_personName, .ref mm_personOff, .ref mm_personGain, .ref mm_personRough, .ref mm_custom, .ref mm_customA, .ref mm_customB, .ref mm_ruleFrom, .ref mm_ruleTo, .ref mm_roundOf, .ref mm_roundAt, .ref mm_roundHour, .ref mm_gunAt, .ref mm_gunHour, .ref mm_knotSort, .ref mm_knotValue, .int mm_lines, .int mm_size, .int mm_at, .int mm_place, .int mm_sort, .int mm_value, .int mm_fault, .int mm_faultPlace, .int mm_lastFault, .int mm_lastPlace, .int mm_open, .int mm_counted, .int mm_tryWhat, .int mm_tryAt, .int mm_rightSet, .int mm_movedThing, .int mm_movedBy, .int mm_oftenClock, .int mm_oftenBy, .int mm_purposePerson, .int mm_purposeClock, .int mm_purposeHour, .ref mm_start, .ref mm_off, .ref mm_last, .ref mm_passed, .ref mm_kept, .ref mm_keptMany, .int mm_next, .int mm_passings, .ref mm_history, .ref mm_names, .ref mm_worked, .int mm_workedMany, .int mm_readings, .int mm_knownBy, .ref mm_readThing, .ref mm_readHour, .ref mm_readLow, .ref mm_readHigh, .int mm_hasImage, .int mm_imageNext, .int mm_imagePassings, .ref mm_imageOff, .ref mm_imageLast, .ref mm_imagePassed, .ref mm_imageKept, .ref mm_imageMany, .ref mm_imageHistory])), (mm_tape, .inl (k_mm_tape, 700, .inl (upd g_49_f1 (z_74 : Int32).toNatClampNeg (z_79 : Int32))))] H := hP
                have hD : va_D A [(mm, .inr (11, [.int 0, .ref mm_tape, .int mm_taped, .ref mm_number, .ref mm_clockName, .ref mm_clockOff, .ref mm_clockGain, .ref mm_clockRough, .ref mm_personName, .ref mm_personOff, .ref mm_personGain, .ref mm_personRough, .ref mm_custom, .ref mm_customA, .ref mm_customB, .ref mm_ruleFrom, .ref mm_ruleTo, .ref mm_roundOf, .ref mm_roundAt, .ref mm_roundHour, .ref mm_gunAt, .ref mm_gunHour, .ref mm_knotSort, .ref mm_knotValue, .int mm_lines, .int mm_size, .int mm_at, .int mm_place, .int mm_sort, .int mm_value, .int mm_fault, .int mm_faultPlace, .int mm_lastFault, .int mm_lastPlace, .int mm_open, .int mm_counted, .int mm_tryWhat, .int mm_tryAt, .int mm_rightSet, .int mm_movedThing, .int mm_movedBy, .int mm_oftenClock, .int mm_oftenBy, .int mm_purposePerson, .int mm_purposeClock, .int mm_purposeHour, .ref mm_start, .ref mm_off, .ref mm_last, .ref mm_passed, .ref mm_kept, .ref mm_keptMany, .int mm_next, .int mm_passings, .ref mm_history, .ref mm_names, .ref mm_worked, .int mm_workedMany, .int mm_readings, .int mm_knownBy, .ref mm_readThing, .ref mm_readHour, .ref mm_readLow, .ref mm_readHigh, .int mm_hasImage, .int mm_imageNext, .int mm_imagePassings, .ref mm_imageOff, .ref mm_imageLast, .ref mm_imagePassed, .ref mm_imageKept, .ref mm_imageMany, .ref mm_imageHistory])), (mm_tape, .inl (k_mm_tape, 700, .inl (upd g_49_f1 (z_74 : Int32).toNatClampNeg (z_79 : Int32))))] := hD
                obtain ⟨f_80, hf_80, ef_80⟩ : ∃ g : Nat → Int32, Rg g 0 255 ∧ (upd g_49_f1 (z_74 : Int32).toNatClampNeg (z_79 : Int32)) = g := ⟨_, Rg_upd hg_49_f1 (by omega), rfl⟩
                rw [ef_80] at hP hD
                obtain ⟨z_81, ez_81⟩ : ∃ y : Int32, y = g_49_l6 + Int32.ofInt (1) := ⟨_, rfl⟩
                have kz_81 : z_81.toInt = g_49_l6.toInt + (1) := ti_add ez_81 rfl (by decide) (by omega) (by omega)
                refine lv_iinc (v := z_81) (lv' := [(6, .int z_81), (7, .int v2), (0, .ref mm), (1, .int v0), (2, .int v1), (3, .int v2), (4, .int v3), (5, .int v4)]) hx hb dX11_feed_104 hl (k := 1) rfl (ez_81.symm) (by decide) rfl (fun ls hl => ?_)
                clear ez_81
                refine lv_goto (tgt := 20) hx hb dX11_feed_107 (by decide) ?_
                exact ih51 z_81 f_80 (by omega) hf_80 (FMq_s hi_fm_q_50 (fv_2 (by omega) (by omega)) (by omega) ez_78 ez_79 ef_80 (by omega) (by omega) (by omega) (by omega)) (by omega) _ _ (hP.sub [0, 1] rfl) (hD.sub [0, 1] (by decide) rfl) hS _ (lv_sub hl [0, 2, 3, 4, 5, 6, 7] rfl)
            · have kc_55 := il_nle c_55
              have := (by decide : (8 : Int32).toInt = 8)
              refine lv_iload_n hx hb dX11_feed_44 rfl (lv_at hl 3 rfl) ?_
              refine lv_goto (tgt := 73) hx hb dX11_feed_45 (by decide) ?_
              refine lv_istore (lv' := [(7, .int v1), (6, .int g_49_l6), (0, .ref mm), (1, .int v0), (2, .int v1), (3, .int v2), (4, .int v3), (5, .int v4)]) hx hb dX11_feed_73 hl (by decide) rfl (fun ls hl => ?_)
              refine lv_aload_n hx hb dX11_feed_75 rfl (lv_at hl 2 rfl) ?_
              refine va_get (D := (dC, dI)) (ci := 11) (v := .ref mm_tape) (C := RX11) (T := TX11) (N := 73) hx hb hT inX11 hown hK hP 0 rfl rfl 1 (by decide) (hT _ mw_6_18) (fun _ h9 => h9) rfl dX11_feed_76 ?_
              refine lv_aload_n hx hb dX11_feed_79 rfl (lv_at hl 2 rfl) ?_
              refine va_get (D := (dC, dI)) (ci := 11) (v := .int mm_taped) (C := RX11) (T := TX11) (N := 73) hx hb hT inX11 hown hK hP 0 rfl rfl 2 (by decide) (hT _ mw_6_19) (fun _ h9 => h9) rfl dX11_feed_80 ?_
              refine lv_iload hx hb dX11_feed_83 (lv_at hl 1 rfl) ?_
              refine lv_iadd hx hb dX11_feed_85 ?_
              refine lv_topi (fun z_82 ez_82 => ?_)
              have kz_82 : z_82.toInt = mm_taped.toInt + g_49_l6.toInt := ti_add ez_82 rfl rfl (by omega) (by omega)
              clear ez_82
              refine lv_iload hx hb dX11_feed_86 (lv_at hl 0 rfl) ?_
              refine lv_bipush (v := 24) hx hb dX11_feed_88 (by decide) ?_
              refine lv_bipush (v := 8) hx hb dX11_feed_90 (by decide) ?_
              refine lv_iload hx hb dX11_feed_92 (lv_at hl 1 rfl) ?_
              refine lv_iconst (v := 4) hx hb dX11_feed_94 (by decide) ?_
              refine lv_irem hx hb dX11_feed_95 (by decide) ?_
              refine lv_topi (fun z_83 ez_83 => ?_)
              have kz_83 : z_83.toInt = g_49_l6.toInt % 4 := ti_rem ez_83 rfl (by decide) (by omega) (by decide)
              clear ez_83
              refine lv_imul hx hb dX11_feed_96 ?_
              refine lv_topi (fun z_84 ez_84 => ?_)
              have kz_84 : z_84.toInt = 8 * z_83.toInt := ti_mul ez_84 (by decide) rfl (by omega) (by omega)
              clear ez_84
              refine lv_isub hx hb dX11_feed_97 ?_
              refine lv_topi (fun z_85 ez_85 => ?_)
              have kz_85 : z_85.toInt = 24 - z_84.toInt := ti_sub ez_85 (by decide) rfl (by omega) (by omega)
              clear ez_85
              refine lv_ishr hx hb dX11_feed_98 ?_
              refine lv_topi (fun z_86 ez_86 => ?_)
              refine lv_sipush (v := 255) hx hb dX11_feed_99 (by decide) ?_
              refine lv_iand hx hb dX11_feed_102 ?_
              refine lv_topi (fun z_87 ez_87 => ?_)
              have kz_87 : 0 ≤ z_87.toInt ∧ z_87.toInt ≤ 255 := ti_and ez_87 (by decide)
              refine va_iast hx hb hK hP hD hS 1 0 rfl rfl (vp_in_iff.mpr (by omega)) dX11_feed_103 (fun H locs hP hD hS => ?_)
              have hP : va_P (dC, dI) vwCl [(mm, .inr (11, [.int 0, .ref mm_tape, .int mm_taped, .ref mm_number, .ref mm_clockName, .ref mm_clockOff, .ref mm_clockGain, .ref mm_clockRough, .ref mm_personName, .ref mm_personOff, .ref mm_personGain, .ref mm_personRough, .ref mm_custom, .ref mm_customA, .ref mm_customB, .ref mm_ruleFrom, .ref mm_ruleTo, .ref mm_roundOf, .ref mm_roundAt, .ref mm_roundHour, .ref mm_gunAt, .ref mm_gunHour, .ref mm_knotSort, .ref mm_knotValue, .int mm_lines, .int mm_size, .int mm_at, .int mm_place, .int mm_sort, .int mm_value, .int mm_fault, .int mm_faultPlace, .int mm_lastFault, .int mm_lastPlace, .int mm_open, .int mm_counted, .int mm_tryWhat, .int mm_tryAt, .int mm_rightSet, .int mm_movedThing, .int mm_movedBy, .int mm_oftenClock, .int mm_oftenBy, .int mm_purposePerson, .int mm_purposeClock, .int mm_purposeHour, .ref mm_start, .ref mm_off, .ref mm_last, .ref mm_passed, .ref mm_kept, .ref mm_keptMany, .int mm_next, .int mm_passings, .ref mm_history, .ref mm_names, .ref mm_worked, .int mm_workedMany, .int mm_readings, .int mm_knownBy, .ref mm_readThing, .ref mm_readHour, .ref mm_readLow, .ref mm_readHigh, .int mm_hasImage, .int mm_imageNext, .int mm_imagePassings, .ref mm_imageOff, .ref mm_imageLast, .ref mm_imagePassed, .ref mm_imageKept, .ref mm_imageMany, .ref mm_imageHistory])), (mm_tape, .inl (k_mm_tape, 700, .inl (upd g_49_f1 (z_82 : Int32).toNatClampNeg (z_87 : Int32))))] H := hP
              have hD : va_D A [(mm, .inr (11, [.int 0, .ref mm_tape, .int mm_taped, .ref mm_number, .ref mm_clockName, .ref mm_clockOff, .ref mm_clockGain, .ref mm_clockRough, .ref mm_personName, .ref mm_personOff, .ref mm_personGain, .ref mm_personRough, .ref mm_custom, .ref mm_customA, .ref mm_customB, .ref mm_ruleFrom, .ref mm_ruleTo, .ref mm_roundOf, .ref mm_roundAt, .ref mm_roundHour, .ref mm_gunAt, .ref mm_gunHour, .ref mm_knotSort, .ref mm_knotValue, .int mm_lines, .int mm_size, .int mm_at, .int mm_place, .int mm_sort, .int mm_value, .int mm_fault, .int mm_faultPlace, .int mm_lastFault, .int mm_lastPlace, .int mm_open, .int mm_counted, .int mm_tryWhat, .int mm_tryAt, .int mm_rightSet, .int mm_movedThing, .int mm_movedBy, .int mm_oftenClock, .int mm_oftenBy, .int mm_purposePerson, .int mm_purposeClock, .int mm_purposeHour, .ref mm_start, .ref mm_off, .ref mm_last, .ref mm_passed, .ref mm_kept, .ref mm_keptMany, .int mm_next, .int mm_passings, .ref mm_history, .ref mm_names, .ref mm_worked, .int mm_workedMany, .int mm_readings, .int mm_knownBy, .ref mm_readThing, .ref mm_readHour, .ref mm_readLow, .ref mm_readHigh, .int mm_hasImage, .int mm_imageNext, .int mm_imagePassings, .ref mm_imageOff, .ref mm_imageLast, .ref mm_imagePassed, .ref mm_imageKept, .ref mm_imageMany, .ref mm_imageHistory])), (mm_tape, .inl (k_mm_tape, 700, .inl (upd g_49_f1 (z_82 : Int32).toNatClampNeg (z_87 : Int32))))] := hD
              obtain ⟨f_88, hf_88, ef_88⟩ : ∃ g : Nat → Int32, Rg g 0 255 ∧ (upd g_49_f1 (z_82 : Int32).toNatClampNeg (z_87 : Int32)) = g := ⟨_, Rg_upd hg_49_f1 (by omega), rfl⟩
              rw [ef_88] at hP hD
              obtain ⟨z_89, ez_89⟩ : ∃ y : Int32, y = g_49_l6 + Int32.ofInt (1) := ⟨_, rfl⟩
              have kz_89 : z_89.toInt = g_49_l6.toInt + (1) := ti_add ez_89 rfl (by decide) (by omega) (by omega)
              refine lv_iinc (v := z_89) (lv' := [(6, .int z_89), (7, .int v1), (0, .ref mm), (1, .int v0), (2, .int v1), (3, .int v2), (4, .int v3), (5, .int v4)]) hx hb dX11_feed_104 hl (k := 1) rfl (ez_89.symm) (by decide) rfl (fun ls hl => ?_)
              clear ez_89
              refine lv_goto (tgt := 20) hx hb dX11_feed_107 (by decide) ?_
              exact ih51 z_89 f_88 (by omega) hf_88 (FMq_s hi_fm_q_50 (fv_1 (by omega) (by omega)) (by omega) ez_86 ez_87 ef_88 (by omega) (by omega) (by omega) (by omega)) (by omega) _ _ (hP.sub [0, 1] rfl) (hD.sub [0, 1] (by decide) rfl) hS _ (lv_sub hl [0, 2, 3, 4, 5, 6, 7] rfl)
          · have kc_54 := il_nle c_54
            have := (by decide : (4 : Int32).toInt = 4)
            refine lv_iload_n hx hb dX11_feed_33 rfl (lv_at hl 2 rfl) ?_
            refine lv_goto (tgt := 73) hx hb dX11_feed_34 (by decide) ?_
            refine lv_istore (lv' := [(7, .int v0), (6, .int g_49_l6), (0, .ref mm), (1, .int v0), (2, .int v1), (3, .int v2), (4, .int v3), (5, .int v4)]) hx hb dX11_feed_73 hl (by decide) rfl (fun ls hl => ?_)
            refine lv_aload_n hx hb dX11_feed_75 rfl (lv_at hl 2 rfl) ?_
            refine va_get (D := (dC, dI)) (ci := 11) (v := .ref mm_tape) (C := RX11) (T := TX11) (N := 73) hx hb hT inX11 hown hK hP 0 rfl rfl 1 (by decide) (hT _ mw_6_18) (fun _ h9 => h9) rfl dX11_feed_76 ?_
            refine lv_aload_n hx hb dX11_feed_79 rfl (lv_at hl 2 rfl) ?_
            refine va_get (D := (dC, dI)) (ci := 11) (v := .int mm_taped) (C := RX11) (T := TX11) (N := 73) hx hb hT inX11 hown hK hP 0 rfl rfl 2 (by decide) (hT _ mw_6_19) (fun _ h9 => h9) rfl dX11_feed_80 ?_
            refine lv_iload hx hb dX11_feed_83 (lv_at hl 1 rfl) ?_
            refine lv_iadd hx hb dX11_feed_85 ?_
            refine lv_topi (fun z_90 ez_90 => ?_)
            have kz_90 : z_90.toInt = mm_taped.toInt + g_49_l6.toInt := ti_add ez_90 rfl rfl (by omega) (by omega)
            clear ez_90
            refine lv_iload hx hb dX11_feed_86 (lv_at hl 0 rfl) ?_
            refine lv_bipush (v := 24) hx hb dX11_feed_88 (by decide) ?_
            refine lv_bipush (v := 8) hx hb dX11_feed_90 (by decide) ?_
            refine lv_iload hx hb dX11_feed_92 (lv_at hl 1 rfl) ?_
            refine lv_iconst (v := 4) hx hb dX11_feed_94 (by decide) ?_
            refine lv_irem hx hb dX11_feed_95 (by decide) ?_
            refine lv_topi (fun z_91 ez_91 => ?_)
            have kz_91 : z_91.toInt = g_49_l6.toInt % 4 := ti_rem ez_91 rfl (by decide) (by omega) (by decide)
            clear ez_91
            refine lv_imul hx hb dX11_feed_96 ?_
            refine lv_topi (fun z_92 ez_92 => ?_)
            have kz_92 : z_92.toInt = 8 * z_91.toInt := ti_mul ez_92 (by decide) rfl (by omega) (by omega)
            clear ez_92
            refine lv_isub hx hb dX11_feed_97 ?_
            refine lv_topi (fun z_93 ez_93 => ?_)
            have kz_93 : z_93.toInt = 24 - z_92.toInt := ti_sub ez_93 (by decide) rfl (by omega) (by omega)
            clear ez_93
            refine lv_ishr hx hb dX11_feed_98 ?_
            refine lv_topi (fun z_94 ez_94 => ?_)
            refine lv_sipush (v := 255) hx hb dX11_feed_99 (by decide) ?_
            refine lv_iand hx hb dX11_feed_102 ?_
            refine lv_topi (fun z_95 ez_95 => ?_)
            have kz_95 : 0 ≤ z_95.toInt ∧ z_95.toInt ≤ 255 := ti_and ez_95 (by decide)
            refine va_iast hx hb hK hP hD hS 1 0 rfl rfl (vp_in_iff.mpr (by omega)) dX11_feed_103 (fun H locs hP hD hS => ?_)
            have hP : va_P (dC, dI) vwCl [(mm, .inr (11, [.int 0, .ref mm_tape, .int mm_taped, .ref mm_number, .ref mm_clockName, .ref mm_clockOff, .ref mm_clockGain, .ref mm_clockRough, .ref mm_personName, .ref mm_personOff, .ref mm_personGain, .ref mm_personRough, .ref mm_custom, .ref mm_customA, .ref mm_customB, .ref mm_ruleFrom, .ref mm_ruleTo, .ref mm_roundOf, .ref mm_roundAt, .ref mm_roundHour, .ref mm_gunAt, .ref mm_gunHour, .ref mm_knotSort, .ref mm_knotValue, .int mm_lines, .int mm_size, .int mm_at, .int mm_place, .int mm_sort, .int mm_value, .int mm_fault, .int mm_faultPlace, .int mm_lastFault, .int mm_lastPlace, .int mm_open, .int mm_counted, .int mm_tryWhat, .int mm_tryAt, .int mm_rightSet, .int mm_movedThing, .int mm_movedBy, .int mm_oftenClock, .int mm_oftenBy, .int mm_purposePerson, .int mm_purposeClock, .int mm_purposeHour, .ref mm_start, .ref mm_off, .ref mm_last, .ref mm_passed, .ref mm_kept, .ref mm_keptMany, .int mm_next, .int mm_passings, .ref mm_history, .ref mm_names, .ref mm_worked, .int mm_workedMany, .int mm_readings, .int mm_knownBy, .ref mm_readThing, .ref mm_readHour, .ref mm_readLow, .ref mm_readHigh, .int mm_hasImage, .int mm_imageNext, .int mm_imagePassings, .ref mm_imageOff, .ref mm_imageLast, .ref mm_imagePassed, .ref mm_imageKept, .ref mm_imageMany, .ref mm_imageHistory])), (mm_tape, .inl (k_mm_tape, 700, .inl (upd g_49_f1 (z_90 : Int32).toNatClampNeg (z_95 : Int32))))] H := hP
            have hD : va_D A [(mm, .inr (11, [.int 0, .ref mm_tape, .int mm_taped, .ref mm_number, .ref mm_clockName, .ref mm_clockOff, .ref mm_clockGain, .ref mm_clockRough, .ref mm_personName, .ref mm_personOff, .ref mm_personGain, .ref mm_personRough, .ref mm_custom, .ref mm_customA, .ref mm_customB, .ref mm_ruleFrom, .ref mm_ruleTo, .ref mm_roundOf, .ref mm_roundAt, .ref mm_roundHour, .ref mm_gunAt, .ref mm_gunHour, .ref mm_knotSort, .ref mm_knotValue, .int mm_lines, .int mm_size, .int mm_at, .int mm_place, .int mm_sort, .int mm_value, .int mm_fault, .int mm_faultPlace, .int mm_lastFault, .int mm_lastPlace, .int mm_open, .int mm_counted, .int mm_tryWhat, .int mm_tryAt, .int mm_rightSet, .int mm_movedThing, .int mm_movedBy, .int mm_oftenClock, .int mm_oftenBy, .int mm_purposePerson, .int mm_purposeClock, .int mm_purposeHour, .ref mm_start, .ref mm_off, .ref mm_last, .ref mm_passed, .ref mm_kept, .ref mm_keptMany, .int mm_next, .int mm_passings, .ref mm_history, .ref mm_names, .ref mm_worked, .int mm_workedMany, .int mm_readings, .int mm_knownBy, .ref mm_readThing, .ref mm_readHour, .ref mm_readLow, .ref mm_readHigh, .int mm_hasImage, .int mm_imageNext, .int mm_imagePassings, .ref mm_imageOff, .ref mm_imageLast, .ref mm_imagePassed, .ref mm_imageKept, .ref mm_imageMany, .ref mm_imageHistory])), (mm_tape, .inl (k_mm_tape, 700, .inl (upd g_49_f1 (z_90 : Int32).toNatClampNeg (z_95 : Int32))))] := hD
            obtain ⟨f_96, hf_96, ef_96⟩ : ∃ g : Nat → Int32, Rg g 0 255 ∧ (upd g_49_f1 (z_90 : Int32).toNatClampNeg (z_95 : Int32)) = g := ⟨_, Rg_upd hg_49_f1 (by omega), rfl⟩
            rw [ef_96] at hP hD
            obtain ⟨z_97, ez_97⟩ : ∃ y : Int32, y = g_49_l6 + Int32.ofInt (1) := ⟨_, rfl⟩
            have kz_97 : z_97.toInt = g_49_l6.toInt + (1) := ti_add ez_97 rfl (by decide) (by omega) (by omega)
            refine lv_iinc (v := z_97) (lv' := [(6, .int z_97), (7, .int v0), (0, .ref mm), (1, .int v0), (2, .int v1), (3, .int v2), (4, .int v3), (5, .int v4)]) hx hb dX11_feed_104 hl (k := 1) rfl (ez_97.symm) (by decide) rfl (fun ls hl => ?_)
            clear ez_97
            refine lv_goto (tgt := 20) hx hb dX11_feed_107 (by decide) ?_
            exact ih51 z_97 f_96 (by omega) hf_96 (FMq_s hi_fm_q_50 (fv_0 (by omega)) (by omega) ez_94 ez_95 ef_96 (by omega) (by omega) (by omega) (by omega)) (by omega) _ _ (hP.sub [0, 1] rfl) (hD.sub [0, 1] (by decide) rfl) hS _ (lv_sub hl [0, 2, 3, 4, 5, 6, 7] rfl)
    have := (by decide : (0 : Int32).toInt = 0)
    exact loop_51 4294967296 (0 : Int32) f_mm_tape (by decide) h_f_mm_tape FMq_0 (by omega) _ _ (hP.sub [0, 1] rfl) (hD.sub [0, 1] (by decide) rfl) hS _ (lv_sub hl [0, 1, 2, 3, 4, 5, 6] rfl)
  · have kc_1 := il_nle c_1
    have := (by decide : (680 : Int32).toInt = 680)
    refine lv_iconst (v := (-1)) hx hb dX11_feed_15 (by decide) ?_
    have hP9 := hP.sub (ws' := [(mm, .inr (11, [.int 0, .ref mm_tape, .int mm_taped, .ref mm_number, .ref mm_clockName, .ref mm_clockOff, .ref mm_clockGain, .ref mm_clockRough, .ref mm_personName, .ref mm_personOff, .ref mm_personGain, .ref mm_personRough, .ref mm_custom, .ref mm_customA, .ref mm_customB, .ref mm_ruleFrom, .ref mm_ruleTo, .ref mm_roundOf, .ref mm_roundAt, .ref mm_roundHour, .ref mm_gunAt, .ref mm_gunHour, .ref mm_knotSort, .ref mm_knotValue, .int mm_lines, .int mm_size, .int mm_at, .int mm_place, .int mm_sort, .int mm_value, .int mm_fault, .int mm_faultPlace, .int mm_lastFault, .int mm_lastPlace, .int mm_open, .int mm_counted, .int mm_tryWhat, .int mm_tryAt, .int mm_rightSet, .int mm_movedThing, .int mm_movedBy, .int mm_oftenClock, .int mm_oftenBy, .int mm_purposePerson, .int mm_purposeClock, .int mm_purposeHour, .ref mm_start, .ref mm_off, .ref mm_last, .ref mm_passed, .ref mm_kept, .ref mm_keptMany, .int mm_next, .int mm_passings, .ref mm_history, .ref mm_names, .ref mm_worked, .int mm_workedMany, .int mm_readings, .int mm_knownBy, .ref mm_readThing, .ref mm_readHour, .ref mm_readLow, .ref mm_readHigh, .int mm_hasImage, .int mm_imageNext, .int mm_imagePassings, .ref mm_imageOff, .ref mm_imageLast, .ref mm_imagePassed, .ref mm_imageKept, .ref mm_imageMany, .ref mm_imageHistory])), (mm_tape, .inl (k_mm_tape, 700, .inl f_mm_tape))]) [0, 1] rfl
    have hD9 := hD.sub (ws' := [(mm, .inr (11, [.int 0, .ref mm_tape, .int mm_taped, .ref mm_number, .ref mm_clockName, .ref mm_clockOff, .ref mm_clockGain, .ref mm_clockRough, .ref mm_personName, .ref mm_personOff, .ref mm_personGain, .ref mm_personRough, .ref mm_custom, .ref mm_customA, .ref mm_customB, .ref mm_ruleFrom, .ref mm_ruleTo, .ref mm_roundOf, .ref mm_roundAt, .ref mm_roundHour, .ref mm_gunAt, .ref mm_gunHour, .ref mm_knotSort, .ref mm_knotValue, .int mm_lines, .int mm_size, .int mm_at, .int mm_place, .int mm_sort, .int mm_value, .int mm_fault, .int mm_faultPlace, .int mm_lastFault, .int mm_lastPlace, .int mm_open, .int mm_counted, .int mm_tryWhat, .int mm_tryAt, .int mm_rightSet, .int mm_movedThing, .int mm_movedBy, .int mm_oftenClock, .int mm_oftenBy, .int mm_purposePerson, .int mm_purposeClock, .int mm_purposeHour, .ref mm_start, .ref mm_off, .ref mm_last, .ref mm_passed, .ref mm_kept, .ref mm_keptMany, .int mm_next, .int mm_passings, .ref mm_history, .ref mm_names, .ref mm_worked, .int mm_workedMany, .int mm_readings, .int mm_knownBy, .ref mm_readThing, .ref mm_readHour, .ref mm_readLow, .ref mm_readHigh, .int mm_hasImage, .int mm_imageNext, .int mm_imagePassings, .ref mm_imageOff, .ref mm_imageLast, .ref mm_imagePassed, .ref mm_imageKept, .ref mm_imageMany, .ref mm_imageHistory])), (mm_tape, .inl (k_mm_tape, 700, .inl f_mm_tape))]) [0, 1] (by decide) rfl
    have := (by decide : ((-1) : Int32).toInt = -1)
    exact W.iret (v := (-1)) hx hb hr (fun t ht hW => ⟨⟨(-1), (), rfl, (by first | omega | (refine ⟨?_, ?_⟩ <;> omega) | rfl | (intros; omega)), (0 : Int32), mm_taped, f_mm_tape, (by omega), h_f_mm_tape, (by omega), (Or.inl ⟨(by omega), rfl⟩), by rw [ht]; exact hP9, hD9⟩, hS.F ht⟩) hS.2.2 dX11_feed_16
