-- ===== PART A: goes FIRST, ahead of the names: the tables' words, and 'selects' of the private methods out of them =====
/-- a private method of a class that the tables say can be made, by its rows of tables_1 -/
def lw_okq (q : MethodName × Nat) : Prop := (q.1.cls ≠ "java/lang/invoke/MethodHandle" ∧ q.1.cls ≠ "java/lang/invoke/VarHandle") ∧ Cond.instantiable q.1.cls q.2 ∈ tables_1 ∧ Cond.privateMethod q.1 ∈ tables_1 ∧ Cond.instanceMethod q.1 ∈ tables_1
theorem lw_p0 : lw_okq (⟨"TextPress$Presser", "startForm", "(LTextPress$Row;)V"⟩, 4) := ⟨⟨by decide +kernel, by decide +kernel⟩, List.mem_of_getElem? (i := 58) (by decide +kernel), List.mem_of_getElem? (i := 235) (by decide +kernel), List.mem_of_getElem? (i := 236) (by decide +kernel)⟩
theorem lw_p1 : lw_okq (⟨"TextPress$Row", "makeRoom", "(I)V"⟩, 2) := ⟨⟨by decide +kernel, by decide +kernel⟩, List.mem_of_getElem? (i := 30) (by decide +kernel), List.mem_of_getElem? (i := 247) (by decide +kernel), List.mem_of_getElem? (i := 248) (by decide +kernel)⟩
theorem lw_p2 : lw_okq (⟨"TextPress$Finder", "better", "(II)V"⟩, 4) := ⟨⟨by decide +kernel, by decide +kernel⟩, List.mem_of_getElem? (i := 82) (by decide +kernel), List.mem_of_getElem? (i := 301) (by decide +kernel), List.mem_of_getElem? (i := 302) (by decide +kernel)⟩
theorem lw_p3 : lw_okq (⟨"TextPress$Presser", "putSymbol", "(I)V"⟩, 4) := ⟨⟨by decide +kernel, by decide +kernel⟩, List.mem_of_getElem? (i := 58) (by decide +kernel), List.mem_of_getElem? (i := 309) (by decide +kernel), List.mem_of_getElem? (i := 310) (by decide +kernel)⟩
theorem lw_p4 : lw_okq (⟨"TextPress$Presser", "putPair", "(II)V"⟩, 4) := ⟨⟨by decide +kernel, by decide +kernel⟩, List.mem_of_getElem? (i := 58) (by decide +kernel), List.mem_of_getElem? (i := 320) (by decide +kernel), List.mem_of_getElem? (i := 321) (by decide +kernel)⟩
theorem lw_p5 : lw_okq (⟨"java/lang/Throwable", "fillInStackTrace", "(I)Ljava/lang/Throwable;"⟩, 6) := ⟨⟨by decide +kernel, by decide +kernel⟩, List.mem_of_getElem? (i := 416) (by decide +kernel), List.mem_of_getElem? (i := 414) (by decide +kernel), List.mem_of_getElem? (i := 415) (by decide +kernel)⟩
theorem lw_p6 : lw_okq (⟨"TextPress$Unpresser", "headIsRight", "()Z"⟩, 9) := ⟨⟨by decide +kernel, by decide +kernel⟩, List.mem_of_getElem? (i := 114) (by decide +kernel), List.mem_of_getElem? (i := 511) (by decide +kernel), List.mem_of_getElem? (i := 512) (by decide +kernel)⟩
theorem lw_p7 : lw_okq (⟨"TextPress$Unpresser", "readBlock", "(ILTextPress$Row;)Z"⟩, 9) := ⟨⟨by decide +kernel, by decide +kernel⟩, List.mem_of_getElem? (i := 114) (by decide +kernel), List.mem_of_getElem? (i := 520) (by decide +kernel), List.mem_of_getElem? (i := 521) (by decide +kernel)⟩
theorem lw_p8 : lw_okq (⟨"TextPress$Unpresser", "readStored", "(LTextPress$Row;)Z"⟩, 9) := ⟨⟨by decide +kernel, by decide +kernel⟩, List.mem_of_getElem? (i := 114) (by decide +kernel), List.mem_of_getElem? (i := 524) (by decide +kernel), List.mem_of_getElem? (i := 525) (by decide +kernel)⟩
theorem lw_p9 : lw_okq (⟨"TextPress$Unpresser", "readCoded", "(LTextPress$Code;LTextPress$Code;LTextPress$Row;)Z"⟩, 9) := ⟨⟨by decide +kernel, by decide +kernel⟩, List.mem_of_getElem? (i := 114) (by decide +kernel), List.mem_of_getElem? (i := 540) (by decide +kernel), List.mem_of_getElem? (i := 541) (by decide +kernel)⟩
theorem lw_p10 : lw_okq (⟨"TextPress$Unpresser", "readPair", "(ILTextPress$Code;LTextPress$Row;)Z"⟩, 9) := ⟨⟨by decide +kernel, by decide +kernel⟩, List.mem_of_getElem? (i := 114) (by decide +kernel), List.mem_of_getElem? (i := 549) (by decide +kernel), List.mem_of_getElem? (i := 550) (by decide +kernel)⟩
theorem lw_p11 : lw_okq (⟨"TextPress$Unpresser", "readCodes", "()Z"⟩, 9) := ⟨⟨by decide +kernel, by decide +kernel⟩, List.mem_of_getElem? (i := 114) (by decide +kernel), List.mem_of_getElem? (i := 558) (by decide +kernel), List.mem_of_getElem? (i := 559) (by decide +kernel)⟩
theorem lw_p12 : lw_okq (⟨"TextPress$Unpresser", "readLengths", "(I)Z"⟩, 9) := ⟨⟨by decide +kernel, by decide +kernel⟩, List.mem_of_getElem? (i := 114) (by decide +kernel), List.mem_of_getElem? (i := 569) (by decide +kernel), List.mem_of_getElem? (i := 570) (by decide +kernel)⟩
theorem lw_p13 : lw_okq (⟨"TextPress$Unpresser", "readTimes", "(I)I"⟩, 9) := ⟨⟨by decide +kernel, by decide +kernel⟩, List.mem_of_getElem? (i := 114) (by decide +kernel), List.mem_of_getElem? (i := 573) (by decide +kernel), List.mem_of_getElem? (i := 574) (by decide +kernel)⟩
theorem lw_p14 : lw_okq (⟨"TextPress$Sha1", "fillWords", "(LTextPress$Row;II)V"⟩, 2) := ⟨⟨by decide +kernel, by decide +kernel⟩, List.mem_of_getElem? (i := 44) (by decide +kernel), List.mem_of_getElem? (i := 645) (by decide +kernel), List.mem_of_getElem? (i := 646) (by decide +kernel)⟩
theorem lw_p15 : lw_okq (⟨"TextPress$Sha1", "mixBlock", "()V"⟩, 2) := ⟨⟨by decide +kernel, by decide +kernel⟩, List.mem_of_getElem? (i := 44) (by decide +kernel), List.mem_of_getElem? (i := 656) (by decide +kernel), List.mem_of_getElem? (i := 657) (by decide +kernel)⟩
def lw_privs_1 : List (MethodName × Nat) := [(⟨"TextPress$Presser", "startForm", "(LTextPress$Row;)V"⟩, 4), (⟨"TextPress$Row", "makeRoom", "(I)V"⟩, 2), (⟨"TextPress$Finder", "better", "(II)V"⟩, 4), (⟨"TextPress$Presser", "putSymbol", "(I)V"⟩, 4), (⟨"TextPress$Presser", "putPair", "(II)V"⟩, 4), (⟨"java/lang/Throwable", "fillInStackTrace", "(I)Ljava/lang/Throwable;"⟩, 6), (⟨"TextPress$Unpresser", "headIsRight", "()Z"⟩, 9), (⟨"TextPress$Unpresser", "readBlock", "(ILTextPress$Row;)Z"⟩, 9), (⟨"TextPress$Unpresser", "readStored", "(LTextPress$Row;)Z"⟩, 9), (⟨"TextPress$Unpresser", "readCoded", "(LTextPress$Code;LTextPress$Code;LTextPress$Row;)Z"⟩, 9), (⟨"TextPress$Unpresser", "readPair", "(ILTextPress$Code;LTextPress$Row;)Z"⟩, 9), (⟨"TextPress$Unpresser", "readCodes", "()Z"⟩, 9), (⟨"TextPress$Unpresser", "readLengths", "(I)Z"⟩, 9), (⟨"TextPress$Unpresser", "readTimes", "(I)I"⟩, 9), (⟨"TextPress$Sha1", "fillWords", "(LTextPress$Row;II)V"⟩, 2), (⟨"TextPress$Sha1", "mixBlock", "()V"⟩, 2)]
theorem lw_r1 : ∀ q ∈ lw_privs_1, lw_okq q := List.forall_mem_cons.mpr ⟨lw_p0, List.forall_mem_cons.mpr ⟨lw_p1, List.forall_mem_cons.mpr ⟨lw_p2, List.forall_mem_cons.mpr ⟨lw_p3, List.forall_mem_cons.mpr ⟨lw_p4, List.forall_mem_cons.mpr ⟨lw_p5, List.forall_mem_cons.mpr ⟨lw_p6, List.forall_mem_cons.mpr ⟨lw_p7, List.forall_mem_cons.mpr ⟨lw_p8, List.forall_mem_cons.mpr ⟨lw_p9, List.forall_mem_cons.mpr ⟨lw_p10, List.forall_mem_cons.mpr ⟨lw_p11, List.forall_mem_cons.mpr ⟨lw_p12, List.forall_mem_cons.mpr ⟨lw_p13, List.forall_mem_cons.mpr ⟨lw_p14, List.forall_mem_cons.mpr ⟨lw_p15, fun _ h => absurd h List.not_mem_nil⟩⟩⟩⟩⟩⟩⟩⟩⟩⟩⟩⟩⟩⟩⟩⟩
theorem lw_p16 : lw_okq (⟨"TextPressModel", "refuse", "(I)I"⟩, 24) := ⟨⟨by decide +kernel, by decide +kernel⟩, List.mem_of_getElem? (i := 699) (by decide +kernel), List.mem_of_getElem? (i := 788) (by decide +kernel), List.mem_of_getElem? (i := 789) (by decide +kernel)⟩
theorem lw_p17 : lw_okq (⟨"TextPressModel", "putNumber", "(II)V"⟩, 24) := ⟨⟨by decide +kernel, by decide +kernel⟩, List.mem_of_getElem? (i := 699) (by decide +kernel), List.mem_of_getElem? (i := 804) (by decide +kernel), List.mem_of_getElem? (i := 805) (by decide +kernel)⟩
theorem lw_p18 : lw_okq (⟨"TextPressModel", "putBit", "(I)V"⟩, 24) := ⟨⟨by decide +kernel, by decide +kernel⟩, List.mem_of_getElem? (i := 699) (by decide +kernel), List.mem_of_getElem? (i := 808) (by decide +kernel), List.mem_of_getElem? (i := 809) (by decide +kernel)⟩
theorem lw_p19 : lw_okq (⟨"TextPressModel", "common", "(II)I"⟩, 24) := ⟨⟨by decide +kernel, by decide +kernel⟩, List.mem_of_getElem? (i := 699) (by decide +kernel), List.mem_of_getElem? (i := 813) (by decide +kernel), List.mem_of_getElem? (i := 814) (by decide +kernel)⟩
theorem lw_p20 : lw_okq (⟨"TextPressModel", "putPair", "(II)V"⟩, 24) := ⟨⟨by decide +kernel, by decide +kernel⟩, List.mem_of_getElem? (i := 699) (by decide +kernel), List.mem_of_getElem? (i := 817) (by decide +kernel), List.mem_of_getElem? (i := 818) (by decide +kernel)⟩
theorem lw_p21 : lw_okq (⟨"TextPressModel", "putSign", "(I)V"⟩, 24) := ⟨⟨by decide +kernel, by decide +kernel⟩, List.mem_of_getElem? (i := 699) (by decide +kernel), List.mem_of_getElem? (i := 827) (by decide +kernel), List.mem_of_getElem? (i := 828) (by decide +kernel)⟩
theorem lw_p22 : lw_okq (⟨"TextPressModel", "putCode", "(II)V"⟩, 24) := ⟨⟨by decide +kernel, by decide +kernel⟩, List.mem_of_getElem? (i := 699) (by decide +kernel), List.mem_of_getElem? (i := 831) (by decide +kernel), List.mem_of_getElem? (i := 832) (by decide +kernel)⟩
theorem lw_p23 : lw_okq (⟨"TextPressModel", "adler", "([BI)I"⟩, 24) := ⟨⟨by decide +kernel, by decide +kernel⟩, List.mem_of_getElem? (i := 699) (by decide +kernel), List.mem_of_getElem? (i := 841) (by decide +kernel), List.mem_of_getElem? (i := 842) (by decide +kernel)⟩
theorem lw_p24 : lw_okq (⟨"TextPressModel", "number", "(I)I"⟩, 24) := ⟨⟨by decide +kernel, by decide +kernel⟩, List.mem_of_getElem? (i := 699) (by decide +kernel), List.mem_of_getElem? (i := 850) (by decide +kernel), List.mem_of_getElem? (i := 851) (by decide +kernel)⟩
theorem lw_p25 : lw_okq (⟨"TextPressModel", "bit", "()I"⟩, 24) := ⟨⟨by decide +kernel, by decide +kernel⟩, List.mem_of_getElem? (i := 699) (by decide +kernel), List.mem_of_getElem? (i := 854) (by decide +kernel), List.mem_of_getElem? (i := 855) (by decide +kernel)⟩
theorem lw_p26 : lw_okq (⟨"TextPressModel", "block", "(I)V"⟩, 24) := ⟨⟨by decide +kernel, by decide +kernel⟩, List.mem_of_getElem? (i := 699) (by decide +kernel), List.mem_of_getElem? (i := 858) (by decide +kernel), List.mem_of_getElem? (i := 859) (by decide +kernel)⟩
theorem lw_p27 : lw_okq (⟨"TextPressModel", "stored", "()V"⟩, 24) := ⟨⟨by decide +kernel, by decide +kernel⟩, List.mem_of_getElem? (i := 699) (by decide +kernel), List.mem_of_getElem? (i := 862) (by decide +kernel), List.mem_of_getElem? (i := 863) (by decide +kernel)⟩
theorem lw_p28 : lw_okq (⟨"TextPressModel", "give", "(I)V"⟩, 24) := ⟨⟨by decide +kernel, by decide +kernel⟩, List.mem_of_getElem? (i := 699) (by decide +kernel), List.mem_of_getElem? (i := 867) (by decide +kernel), List.mem_of_getElem? (i := 868) (by decide +kernel)⟩
theorem lw_p29 : lw_okq (⟨"TextPressModel", "fixed", "()V"⟩, 24) := ⟨⟨by decide +kernel, by decide +kernel⟩, List.mem_of_getElem? (i := 699) (by decide +kernel), List.mem_of_getElem? (i := 871) (by decide +kernel), List.mem_of_getElem? (i := 872) (by decide +kernel)⟩
theorem lw_p30 : lw_okq (⟨"TextPressModel", "table", "()V"⟩, 24) := ⟨⟨by decide +kernel, by decide +kernel⟩, List.mem_of_getElem? (i := 699) (by decide +kernel), List.mem_of_getElem? (i := 875) (by decide +kernel), List.mem_of_getElem? (i := 876) (by decide +kernel)⟩
theorem lw_p31 : lw_okq (⟨"TextPressModel", "fill", "(II)I"⟩, 24) := ⟨⟨by decide +kernel, by decide +kernel⟩, List.mem_of_getElem? (i := 699) (by decide +kernel), List.mem_of_getElem? (i := 882) (by decide +kernel), List.mem_of_getElem? (i := 883) (by decide +kernel)⟩
def lw_privs_2 : List (MethodName × Nat) := [(⟨"TextPressModel", "refuse", "(I)I"⟩, 24), (⟨"TextPressModel", "putNumber", "(II)V"⟩, 24), (⟨"TextPressModel", "putBit", "(I)V"⟩, 24), (⟨"TextPressModel", "common", "(II)I"⟩, 24), (⟨"TextPressModel", "putPair", "(II)V"⟩, 24), (⟨"TextPressModel", "putSign", "(I)V"⟩, 24), (⟨"TextPressModel", "putCode", "(II)V"⟩, 24), (⟨"TextPressModel", "adler", "([BI)I"⟩, 24), (⟨"TextPressModel", "number", "(I)I"⟩, 24), (⟨"TextPressModel", "bit", "()I"⟩, 24), (⟨"TextPressModel", "block", "(I)V"⟩, 24), (⟨"TextPressModel", "stored", "()V"⟩, 24), (⟨"TextPressModel", "give", "(I)V"⟩, 24), (⟨"TextPressModel", "fixed", "()V"⟩, 24), (⟨"TextPressModel", "table", "()V"⟩, 24), (⟨"TextPressModel", "fill", "(II)I"⟩, 24)]
theorem lw_r2 : ∀ q ∈ lw_privs_2, lw_okq q := List.forall_mem_cons.mpr ⟨lw_p16, List.forall_mem_cons.mpr ⟨lw_p17, List.forall_mem_cons.mpr ⟨lw_p18, List.forall_mem_cons.mpr ⟨lw_p19, List.forall_mem_cons.mpr ⟨lw_p20, List.forall_mem_cons.mpr ⟨lw_p21, List.forall_mem_cons.mpr ⟨lw_p22, List.forall_mem_cons.mpr ⟨lw_p23, List.forall_mem_cons.mpr ⟨lw_p24, List.forall_mem_cons.mpr ⟨lw_p25, List.forall_mem_cons.mpr ⟨lw_p26, List.forall_mem_cons.mpr ⟨lw_p27, List.forall_mem_cons.mpr ⟨lw_p28, List.forall_mem_cons.mpr ⟨lw_p29, List.forall_mem_cons.mpr ⟨lw_p30, List.forall_mem_cons.mpr ⟨lw_p31, fun _ h => absurd h List.not_mem_nil⟩⟩⟩⟩⟩⟩⟩⟩⟩⟩⟩⟩⟩⟩⟩⟩
theorem lw_p32 : lw_okq (⟨"TextPressModel", "assign", "(II)V"⟩, 24) := ⟨⟨by decide +kernel, by decide +kernel⟩, List.mem_of_getElem? (i := 699) (by decide +kernel), List.mem_of_getElem? (i := 886) (by decide +kernel), List.mem_of_getElem? (i := 887) (by decide +kernel)⟩
theorem lw_p33 : lw_okq (⟨"TextPressModel", "sign", "(II)I"⟩, 24) := ⟨⟨by decide +kernel, by decide +kernel⟩, List.mem_of_getElem? (i := 699) (by decide +kernel), List.mem_of_getElem? (i := 890) (by decide +kernel), List.mem_of_getElem? (i := 891) (by decide +kernel)⟩
theorem lw_p34 : lw_okq (⟨"TextPressModel", "signs", "()V"⟩, 24) := ⟨⟨by decide +kernel, by decide +kernel⟩, List.mem_of_getElem? (i := 699) (by decide +kernel), List.mem_of_getElem? (i := 894) (by decide +kernel), List.mem_of_getElem? (i := 895) (by decide +kernel)⟩
theorem lw_p35 : lw_okq (⟨"TextPressModel", "pair", "(I)V"⟩, 24) := ⟨⟨by decide +kernel, by decide +kernel⟩, List.mem_of_getElem? (i := 699) (by decide +kernel), List.mem_of_getElem? (i := 898) (by decide +kernel), List.mem_of_getElem? (i := 899) (by decide +kernel)⟩
theorem lw_p36 : lw_okq (⟨"TextPressModel", "chunk", "(II)V"⟩, 24) := ⟨⟨by decide +kernel, by decide +kernel⟩, List.mem_of_getElem? (i := 699) (by decide +kernel), List.mem_of_getElem? (i := 915) (by decide +kernel), List.mem_of_getElem? (i := 916) (by decide +kernel)⟩
theorem lw_p37 : lw_okq (⟨"TextPressModel", "padded", "(II)I"⟩, 24) := ⟨⟨by decide +kernel, by decide +kernel⟩, List.mem_of_getElem? (i := 699) (by decide +kernel), List.mem_of_getElem? (i := 919) (by decide +kernel), List.mem_of_getElem? (i := 920) (by decide +kernel)⟩
def lw_privs_3 : List (MethodName × Nat) := [(⟨"TextPressModel", "assign", "(II)V"⟩, 24), (⟨"TextPressModel", "sign", "(II)I"⟩, 24), (⟨"TextPressModel", "signs", "()V"⟩, 24), (⟨"TextPressModel", "pair", "(I)V"⟩, 24), (⟨"TextPressModel", "chunk", "(II)V"⟩, 24), (⟨"TextPressModel", "padded", "(II)I"⟩, 24)]
theorem lw_r3 : ∀ q ∈ lw_privs_3, lw_okq q := List.forall_mem_cons.mpr ⟨lw_p32, List.forall_mem_cons.mpr ⟨lw_p33, List.forall_mem_cons.mpr ⟨lw_p34, List.forall_mem_cons.mpr ⟨lw_p35, List.forall_mem_cons.mpr ⟨lw_p36, List.forall_mem_cons.mpr ⟨lw_p37, fun _ h => absurd h List.not_mem_nil⟩⟩⟩⟩⟩⟩
def lw_privs : List (MethodName × Nat) := lw_privs_1 ++ (lw_privs_2 ++ (lw_privs_3))
def lw_tbl : List Cond := k2_sels lw_privs ++ tables_1
theorem lw_privs_ok : ∀ q ∈ lw_privs, lw_okq q := by
  show ∀ q ∈ lw_privs_1 ++ (lw_privs_2 ++ (lw_privs_3)), lw_okq q
  exact List.forall_mem_append.mpr ⟨lw_r1, List.forall_mem_append.mpr ⟨lw_r2, lw_r3⟩⟩
/-! the words that a contract carries: all of the tables' but laysStatic, which looks at the heap -/
def notLS : Cond → Bool
  | .laysStatic .. => false
  | _ => true
def lwG : List Cond := lw_tbl.filter notLS
theorem in_G {w : Cond} (h : w ∈ lw_tbl) (h2 : notLS w = true) : w ∈ lwG := List.mem_filter.mpr ⟨h, h2⟩
theorem of_G {w : Cond} (h : w ∈ lwG) : w ∈ lw_tbl := (List.mem_filter.mp h).1
theorem in_Gs {ws : List Cond} (h : ∀ w ∈ ws, w ∈ lw_tbl ∧ notLS w = true) : ∀ w ∈ ws, w ∈ lwG := fun w hw => in_G (h w hw).1 (h w hw).2
def R_TP : String := "TextPress"
def R_Row : String := "TextPress$Row"
def R_Sha : String := "TextPress$Sha1"
def R_BW : String := "TextPress$BitWriter"
def R_Fi : String := "TextPress$Finder"
def R_Pr : String := "TextPress$Presser"
def R_BR : String := "TextPress$BitReader"
def R_Co : String := "TextPress$Code"
def R_Un : String := "TextPress$Unpresser"
def R_Mo : String := "TextPressModel"
def R_La : String := "TextPressLaw"
def R_JA : String := "java/util/Arrays"
def F_TP : u_T := fun k => match k with
  | 0 => ("TextPress", "input", "LTextPress$Row;", true)
  | 1 => ("TextPress", "output", "LTextPress$Row;", false)
  | 2 => ("TextPress", "spare", "LTextPress$Row;", false)
  | 3 => ("TextPress", "sha1", "LTextPress$Sha1;", true)
  | 4 => ("TextPress", "presser", "LTextPress$Presser;", true)
  | 5 => ("TextPress", "unpresser", "LTextPress$Unpresser;", true)
  | 6 => ("TextPress", "blocks", "I", false)
  | 7 => ("TextPress", "toldBlocks", "I", false)
  | _ => ("TextPress", "damagedReadings", "I", false)
def t_TP : Nat → FieldType := fun k => match k with
  | 0 => .object "TextPress$Row"
  | 1 => .object "TextPress$Row"
  | 2 => .object "TextPress$Row"
  | 3 => .object "TextPress$Sha1"
  | 4 => .object "TextPress$Presser"
  | 5 => .object "TextPress$Unpresser"
  | 6 => .int
  | 7 => .int
  | _ => .int
def F_Row : u_T := fun k => match k with
  | 0 => ("TextPress$Row", "bytes", "[B", false)
  | _ => ("TextPress$Row", "length", "I", false)
def t_Row : Nat → FieldType := fun k => match k with
  | 0 => .array .byte
  | _ => .int
def F_Sha : u_T := fun k => match k with
  | 0 => ("TextPress$Sha1", "words", "[I", true)
  | _ => ("TextPress$Sha1", "state", "[I", true)
def t_Sha : Nat → FieldType := fun k => match k with
  | 0 => .array .int
  | _ => .array .int
def F_BW : u_T := fun k => match k with
  | 0 => ("TextPress$BitWriter", "row", "LTextPress$Row;", false)
  | 1 => ("TextPress$BitWriter", "held", "I", false)
  | _ => ("TextPress$BitWriter", "heldBits", "I", false)
def t_BW : Nat → FieldType := fun k => match k with
  | 0 => .object "TextPress$Row"
  | 1 => .int
  | _ => .int
def F_Fi : u_T := fun k => match k with
  | 0 => ("TextPress$Finder", "newest", "[I", true)
  | 1 => ("TextPress$Finder", "before", "[I", false)
  | 2 => ("TextPress$Finder", "length", "I", false)
  | _ => ("TextPress$Finder", "distance", "I", false)
def t_Fi : Nat → FieldType := fun k => match k with
  | 0 => .array .int
  | 1 => .array .int
  | 2 => .int
  | _ => .int
def F_Pr : u_T := fun k => match k with
  | 0 => ("TextPress$Presser", "bits", "LTextPress$BitWriter;", true)
  | 1 => ("TextPress$Presser", "finder", "LTextPress$Finder;", true)
  | 2 => ("TextPress$Presser", "pairs", "I", false)
  | _ => ("TextPress$Presser", "literals", "I", false)
def t_Pr : Nat → FieldType := fun k => match k with
  | 0 => .object "TextPress$BitWriter"
  | 1 => .object "TextPress$Finder"
  | 2 => .int
  | _ => .int
def F_BR : u_T := fun k => match k with
  | 0 => ("TextPress$BitReader", "bytes", "[B", false)
  | 1 => ("TextPress$BitReader", "bitsInAll", "I", false)
  | 2 => ("TextPress$BitReader", "place", "I", false)
  | _ => ("TextPress$BitReader", "ranOut", "Z", false)
def t_BR : Nat → FieldType := fun k => match k with
  | 0 => .array .byte
  | 1 => .int
  | 2 => .int
  | _ => .boolean
def F_Co : u_T := fun k => match k with
  | 0 => ("TextPress$Code", "numbers", "[I", true)
  | 1 => ("TextPress$Code", "starts", "[I", true)
  | _ => ("TextPress$Code", "symbols", "[I", true)
def t_Co : Nat → FieldType := fun k => match k with
  | 0 => .array .int
  | 1 => .array .int
  | _ => .array .int
def F_Un : u_T := fun k => match k with
  | 0 => ("TextPress$Unpresser", "bits", "LTextPress$BitReader;", true)
  | 1 => ("TextPress$Unpresser", "lengths", "[I", true)
  | 2 => ("TextPress$Unpresser", "fixedLetters", "LTextPress$Code;", true)
  | 3 => ("TextPress$Unpresser", "fixedDistances", "LTextPress$Code;", true)
  | 4 => ("TextPress$Unpresser", "sizes", "LTextPress$Code;", true)
  | 5 => ("TextPress$Unpresser", "letters", "LTextPress$Code;", true)
  | 6 => ("TextPress$Unpresser", "distances", "LTextPress$Code;", true)
  | 7 => ("TextPress$Unpresser", "blocks", "I", false)
  | _ => ("TextPress$Unpresser", "toldBlocks", "I", false)
def t_Un : Nat → FieldType := fun k => match k with
  | 0 => .object "TextPress$BitReader"
  | 1 => .array .int
  | 2 => .object "TextPress$Code"
  | 3 => .object "TextPress$Code"
  | 4 => .object "TextPress$Code"
  | 5 => .object "TextPress$Code"
  | 6 => .object "TextPress$Code"
  | 7 => .int
  | _ => .int
def F_Mo : u_T := fun k => match k with
  | 0 => ("TextPressModel", "input", "[B", true)
  | 1 => ("TextPressModel", "output", "[B", true)
  | 2 => ("TextPressModel", "room", "[B", true)
  | 3 => ("TextPressModel", "size", "I", false)
  | 4 => ("TextPressModel", "made", "I", false)
  | 5 => ("TextPressModel", "pairs", "I", false)
  | 6 => ("TextPressModel", "literals", "I", false)
  | 7 => ("TextPressModel", "blocks", "I", false)
  | 8 => ("TextPressModel", "told", "I", false)
  | 9 => ("TextPressModel", "damaged", "I", false)
  | 10 => ("TextPressModel", "thrown", "I", false)
  | 11 => ("TextPressModel", "bits", "I", false)
  | 12 => ("TextPressModel", "at", "I", false)
  | 13 => ("TextPressModel", "filled", "I", false)
  | 14 => ("TextPressModel", "readBlocks", "I", false)
  | 15 => ("TextPressModel", "readTold", "I", false)
  | 16 => ("TextPressModel", "wrong", "Z", false)
  | 17 => ("TextPressModel", "lengths", "[I", true)
  | 18 => ("TextPressModel", "codes", "[I", true)
  | 19 => ("TextPressModel", "told0", "[I", true)
  | 20 => ("TextPressModel", "many", "[I", true)
  | 21 => ("TextPressModel", "first", "[I", true)
  | 22 => ("TextPressModel", "words", "[I", true)
  | _ => ("TextPressModel", "sum", "[I", true)
def t_Mo : Nat → FieldType := fun k => match k with
  | 0 => .array .byte
  | 1 => .array .byte
  | 2 => .array .byte
  | 3 => .int
  | 4 => .int
  | 5 => .int
  | 6 => .int
  | 7 => .int
  | 8 => .int
  | 9 => .int
  | 10 => .int
  | 11 => .int
  | 12 => .int
  | 13 => .int
  | 14 => .int
  | 15 => .int
  | 16 => .boolean
  | 17 => .array .int
  | 18 => .array .int
  | 19 => .array .int
  | 20 => .array .int
  | 21 => .array .int
  | 22 => .array .int
  | _ => .array .int
abbrev classes : List vw_C := [(R_TP, F_TP, 9), (R_Row, F_Row, 2), (R_Sha, F_Sha, 2), (R_BW, F_BW, 3), (R_Fi, F_Fi, 4), (R_Pr, F_Pr, 4), (R_BR, F_BR, 4), (R_Co, F_Co, 3), (R_Un, F_Un, 9), (R_Mo, F_Mo, 24)]
theorem n_TP : ∀ a, a < 9 → ∀ b, b < 9 → a ≠ b → (F_TP a).2.1 ≠ (F_TP b).2.1 := by decide +kernel
theorem t_TP_ok : ∀ k, k < 9 → parseFieldDescriptor (F_TP k).2.2.1 = some (t_TP k) := by decide +kernel
theorem i_TP : ∀ w ∈ u_ws R_TP F_TP 9, w ∈ lwG := in_Gs (by decide +kernel)
theorem df_TP : ∀ j, j < 9 → defaultValue (t_TP j) = vp_V [.null, .null, .null, .null, .null, .null, .int 0, .int 0, .int 0] j := by decide +kernel
theorem n_Row : ∀ a, a < 2 → ∀ b, b < 2 → a ≠ b → (F_Row a).2.1 ≠ (F_Row b).2.1 := by decide +kernel
theorem t_Row_ok : ∀ k, k < 2 → parseFieldDescriptor (F_Row k).2.2.1 = some (t_Row k) := by decide +kernel
theorem i_Row : ∀ w ∈ u_ws R_Row F_Row 2, w ∈ lwG := in_Gs (by decide +kernel)
theorem df_Row : ∀ j, j < 2 → defaultValue (t_Row j) = vp_V [.null, .int 0] j := by decide +kernel
theorem n_Sha : ∀ a, a < 2 → ∀ b, b < 2 → a ≠ b → (F_Sha a).2.1 ≠ (F_Sha b).2.1 := by decide +kernel
theorem t_Sha_ok : ∀ k, k < 2 → parseFieldDescriptor (F_Sha k).2.2.1 = some (t_Sha k) := by decide +kernel
theorem i_Sha : ∀ w ∈ u_ws R_Sha F_Sha 2, w ∈ lwG := in_Gs (by decide +kernel)
theorem df_Sha : ∀ j, j < 2 → defaultValue (t_Sha j) = vp_V [.null, .null] j := by decide +kernel
theorem n_BW : ∀ a, a < 3 → ∀ b, b < 3 → a ≠ b → (F_BW a).2.1 ≠ (F_BW b).2.1 := by decide +kernel
theorem t_BW_ok : ∀ k, k < 3 → parseFieldDescriptor (F_BW k).2.2.1 = some (t_BW k) := by decide +kernel
theorem i_BW : ∀ w ∈ u_ws R_BW F_BW 3, w ∈ lwG := in_Gs (by decide +kernel)
theorem df_BW : ∀ j, j < 3 → defaultValue (t_BW j) = vp_V [.null, .int 0, .int 0] j := by decide +kernel
theorem n_Fi : ∀ a, a < 4 → ∀ b, b < 4 → a ≠ b → (F_Fi a).2.1 ≠ (F_Fi b).2.1 := by decide +kernel
theorem t_Fi_ok : ∀ k, k < 4 → parseFieldDescriptor (F_Fi k).2.2.1 = some (t_Fi k) := by decide +kernel
theorem i_Fi : ∀ w ∈ u_ws R_Fi F_Fi 4, w ∈ lwG := in_Gs (by decide +kernel)
theorem df_Fi : ∀ j, j < 4 → defaultValue (t_Fi j) = vp_V [.null, .null, .int 0, .int 0] j := by decide +kernel
theorem n_Pr : ∀ a, a < 4 → ∀ b, b < 4 → a ≠ b → (F_Pr a).2.1 ≠ (F_Pr b).2.1 := by decide +kernel
theorem t_Pr_ok : ∀ k, k < 4 → parseFieldDescriptor (F_Pr k).2.2.1 = some (t_Pr k) := by decide +kernel
theorem i_Pr : ∀ w ∈ u_ws R_Pr F_Pr 4, w ∈ lwG := in_Gs (by decide +kernel)
theorem df_Pr : ∀ j, j < 4 → defaultValue (t_Pr j) = vp_V [.null, .null, .int 0, .int 0] j := by decide +kernel
theorem n_BR : ∀ a, a < 4 → ∀ b, b < 4 → a ≠ b → (F_BR a).2.1 ≠ (F_BR b).2.1 := by decide +kernel
theorem t_BR_ok : ∀ k, k < 4 → parseFieldDescriptor (F_BR k).2.2.1 = some (t_BR k) := by decide +kernel
theorem i_BR : ∀ w ∈ u_ws R_BR F_BR 4, w ∈ lwG := in_Gs (by decide +kernel)
theorem df_BR : ∀ j, j < 4 → defaultValue (t_BR j) = vp_V [.null, .int 0, .int 0, .int 0] j := by decide +kernel
theorem n_Co : ∀ a, a < 3 → ∀ b, b < 3 → a ≠ b → (F_Co a).2.1 ≠ (F_Co b).2.1 := by decide +kernel
theorem t_Co_ok : ∀ k, k < 3 → parseFieldDescriptor (F_Co k).2.2.1 = some (t_Co k) := by decide +kernel
theorem i_Co : ∀ w ∈ u_ws R_Co F_Co 3, w ∈ lwG := in_Gs (by decide +kernel)
theorem df_Co : ∀ j, j < 3 → defaultValue (t_Co j) = vp_V [.null, .null, .null] j := by decide +kernel
theorem n_Un : ∀ a, a < 9 → ∀ b, b < 9 → a ≠ b → (F_Un a).2.1 ≠ (F_Un b).2.1 := by decide +kernel
theorem t_Un_ok : ∀ k, k < 9 → parseFieldDescriptor (F_Un k).2.2.1 = some (t_Un k) := by decide +kernel
theorem i_Un : ∀ w ∈ u_ws R_Un F_Un 9, w ∈ lwG := in_Gs (by decide +kernel)
theorem df_Un : ∀ j, j < 9 → defaultValue (t_Un j) = vp_V [.null, .null, .null, .null, .null, .null, .null, .int 0, .int 0] j := by decide +kernel
theorem n_Mo : ∀ a, a < 24 → ∀ b, b < 24 → a ≠ b → (F_Mo a).2.1 ≠ (F_Mo b).2.1 := by decide +kernel
theorem t_Mo_ok : ∀ k, k < 24 → parseFieldDescriptor (F_Mo k).2.2.1 = some (t_Mo k) := by decide +kernel
theorem i_Mo : ∀ w ∈ u_ws R_Mo F_Mo 24, w ∈ lwG := in_Gs (by decide +kernel)
theorem df_Mo : ∀ j, j < 24 → defaultValue (t_Mo j) = vp_V [.null, .null, .null, .int 0, .int 0, .int 0, .int 0, .int 0, .int 0, .int 0, .int 0, .int 0, .int 0, .int 0, .int 0, .int 0, .int 0, .null, .null, .null, .null, .null, .null, .null] j := by decide +kernel
abbrev b_TP_init : ByteArray := prog_1_method_1_code
def y_TP_init : MethodName := ⟨R_TP, "<init>", "()V"⟩
theorem hd_TP_init : y_TP_init.cls ≠ "java/lang/invoke/MethodHandle" ∧ y_TP_init.cls ≠ "java/lang/invoke/VarHandle" ∧ (parseMethodDescriptor y_TP_init.desc).map (fun d => d.parameters.length) = some 0 := by decide +kernel
abbrev b_TP_feed : ByteArray := prog_1_method_2_code
def y_TP_feed : MethodName := ⟨R_TP, "feed", "(IIIII)I"⟩
theorem hd_TP_feed : y_TP_feed.cls ≠ "java/lang/invoke/MethodHandle" ∧ y_TP_feed.cls ≠ "java/lang/invoke/VarHandle" ∧ (parseMethodDescriptor y_TP_feed.desc).map (fun d => d.parameters.length) = some 5 := by decide +kernel
abbrev b_TP_end : ByteArray := prog_1_method_3_code
def y_TP_end : MethodName := ⟨R_TP, "end", "(I)I"⟩
theorem hd_TP_end : y_TP_end.cls ≠ "java/lang/invoke/MethodHandle" ∧ y_TP_end.cls ≠ "java/lang/invoke/VarHandle" ∧ (parseMethodDescriptor y_TP_end.desc).map (fun d => d.parameters.length) = some 1 := by decide +kernel
abbrev b_TP_change : ByteArray := prog_1_method_4_code
def y_TP_change : MethodName := ⟨R_TP, "change", "(II)V"⟩
theorem hd_TP_change : y_TP_change.cls ≠ "java/lang/invoke/MethodHandle" ∧ y_TP_change.cls ≠ "java/lang/invoke/VarHandle" ∧ (parseMethodDescriptor y_TP_change.desc).map (fun d => d.parameters.length) = some 2 := by decide +kernel
abbrev b_TP_press : ByteArray := prog_1_method_5_code
def y_TP_press : MethodName := ⟨R_TP, "press", "()I"⟩
theorem hd_TP_press : y_TP_press.cls ≠ "java/lang/invoke/MethodHandle" ∧ y_TP_press.cls ≠ "java/lang/invoke/VarHandle" ∧ (parseMethodDescriptor y_TP_press.desc).map (fun d => d.parameters.length) = some 0 := by decide +kernel
abbrev b_TP_open : ByteArray := prog_1_method_6_code
def y_TP_open : MethodName := ⟨R_TP, "open", "()I"⟩
theorem hd_TP_open : y_TP_open.cls ≠ "java/lang/invoke/MethodHandle" ∧ y_TP_open.cls ≠ "java/lang/invoke/VarHandle" ∧ (parseMethodDescriptor y_TP_open.desc).map (fun d => d.parameters.length) = some 0 := by decide +kernel
abbrev b_TP_turn : ByteArray := prog_1_method_7_code
def y_TP_turn : MethodName := ⟨R_TP, "turn", "()I"⟩
theorem hd_TP_turn : y_TP_turn.cls ≠ "java/lang/invoke/MethodHandle" ∧ y_TP_turn.cls ≠ "java/lang/invoke/VarHandle" ∧ (parseMethodDescriptor y_TP_turn.desc).map (fun d => d.parameters.length) = some 0 := by decide +kernel
abbrev b_TP_hash : ByteArray := prog_1_method_8_code
def y_TP_hash : MethodName := ⟨R_TP, "hash", "(I)J"⟩
theorem hd_TP_hash : y_TP_hash.cls ≠ "java/lang/invoke/MethodHandle" ∧ y_TP_hash.cls ≠ "java/lang/invoke/VarHandle" ∧ (parseMethodDescriptor y_TP_hash.desc).map (fun d => d.parameters.length) = some 1 := by decide +kernel
abbrev b_TP_letter : ByteArray := prog_1_method_9_code
def y_TP_letter : MethodName := ⟨R_TP, "letter", "(I)I"⟩
theorem hd_TP_letter : y_TP_letter.cls ≠ "java/lang/invoke/MethodHandle" ∧ y_TP_letter.cls ≠ "java/lang/invoke/VarHandle" ∧ (parseMethodDescriptor y_TP_letter.desc).map (fun d => d.parameters.length) = some 1 := by decide +kernel
abbrev b_TP_count : ByteArray := prog_1_method_10_code
def y_TP_count : MethodName := ⟨R_TP, "count", "(I)I"⟩
theorem hd_TP_count : y_TP_count.cls ≠ "java/lang/invoke/MethodHandle" ∧ y_TP_count.cls ≠ "java/lang/invoke/VarHandle" ∧ (parseMethodDescriptor y_TP_count.desc).map (fun d => d.parameters.length) = some 1 := by decide +kernel
abbrev b_Row_init : ByteArray := prog_7_method_1_code
def y_Row_init : MethodName := ⟨R_Row, "<init>", "()V"⟩
theorem hd_Row_init : y_Row_init.cls ≠ "java/lang/invoke/MethodHandle" ∧ y_Row_init.cls ≠ "java/lang/invoke/VarHandle" ∧ (parseMethodDescriptor y_Row_init.desc).map (fun d => d.parameters.length) = some 0 := by decide +kernel
abbrev b_Row_length : ByteArray := prog_7_method_2_code
def y_Row_length : MethodName := ⟨R_Row, "length", "()I"⟩
theorem hd_Row_length : y_Row_length.cls ≠ "java/lang/invoke/MethodHandle" ∧ y_Row_length.cls ≠ "java/lang/invoke/VarHandle" ∧ (parseMethodDescriptor y_Row_length.desc).map (fun d => d.parameters.length) = some 0 := by decide +kernel
abbrev b_Row_bytes : ByteArray := prog_7_method_3_code
def y_Row_bytes : MethodName := ⟨R_Row, "bytes", "()[B"⟩
theorem hd_Row_bytes : y_Row_bytes.cls ≠ "java/lang/invoke/MethodHandle" ∧ y_Row_bytes.cls ≠ "java/lang/invoke/VarHandle" ∧ (parseMethodDescriptor y_Row_bytes.desc).map (fun d => d.parameters.length) = some 0 := by decide +kernel
abbrev b_Row_has : ByteArray := prog_7_method_4_code
def y_Row_has : MethodName := ⟨R_Row, "has", "(I)Z"⟩
theorem hd_Row_has : y_Row_has.cls ≠ "java/lang/invoke/MethodHandle" ∧ y_Row_has.cls ≠ "java/lang/invoke/VarHandle" ∧ (parseMethodDescriptor y_Row_has.desc).map (fun d => d.parameters.length) = some 1 := by decide +kernel
abbrev b_Row_at : ByteArray := prog_7_method_5_code
def y_Row_at : MethodName := ⟨R_Row, "at", "(I)I"⟩
theorem hd_Row_at : y_Row_at.cls ≠ "java/lang/invoke/MethodHandle" ∧ y_Row_at.cls ≠ "java/lang/invoke/VarHandle" ∧ (parseMethodDescriptor y_Row_at.desc).map (fun d => d.parameters.length) = some 1 := by decide +kernel
abbrev b_Row_put : ByteArray := prog_7_method_6_code
def y_Row_put : MethodName := ⟨R_Row, "put", "(II)V"⟩
theorem hd_Row_put : y_Row_put.cls ≠ "java/lang/invoke/MethodHandle" ∧ y_Row_put.cls ≠ "java/lang/invoke/VarHandle" ∧ (parseMethodDescriptor y_Row_put.desc).map (fun d => d.parameters.length) = some 2 := by decide +kernel
abbrev b_Row_add : ByteArray := prog_7_method_7_code
def y_Row_add : MethodName := ⟨R_Row, "add", "(I)V"⟩
theorem hd_Row_add : y_Row_add.cls ≠ "java/lang/invoke/MethodHandle" ∧ y_Row_add.cls ≠ "java/lang/invoke/VarHandle" ∧ (parseMethodDescriptor y_Row_add.desc).map (fun d => d.parameters.length) = some 1 := by decide +kernel
abbrev b_Row_addNumber : ByteArray := prog_7_method_8_code
def y_Row_addNumber : MethodName := ⟨R_Row, "addNumber", "(I)V"⟩
theorem hd_Row_addNumber : y_Row_addNumber.cls ≠ "java/lang/invoke/MethodHandle" ∧ y_Row_addNumber.cls ≠ "java/lang/invoke/VarHandle" ∧ (parseMethodDescriptor y_Row_addNumber.desc).map (fun d => d.parameters.length) = some 1 := by decide +kernel
abbrev b_Row_shorten : ByteArray := prog_7_method_9_code
def y_Row_shorten : MethodName := ⟨R_Row, "shorten", "(I)V"⟩
theorem hd_Row_shorten : y_Row_shorten.cls ≠ "java/lang/invoke/MethodHandle" ∧ y_Row_shorten.cls ≠ "java/lang/invoke/VarHandle" ∧ (parseMethodDescriptor y_Row_shorten.desc).map (fun d => d.parameters.length) = some 1 := by decide +kernel
abbrev b_Row_copyFrom : ByteArray := prog_7_method_10_code
def y_Row_copyFrom : MethodName := ⟨R_Row, "copyFrom", "(LTextPress$Row;)V"⟩
theorem hd_Row_copyFrom : y_Row_copyFrom.cls ≠ "java/lang/invoke/MethodHandle" ∧ y_Row_copyFrom.cls ≠ "java/lang/invoke/VarHandle" ∧ (parseMethodDescriptor y_Row_copyFrom.desc).map (fun d => d.parameters.length) = some 1 := by decide +kernel
abbrev b_Row_adler32 : ByteArray := prog_7_method_11_code
def y_Row_adler32 : MethodName := ⟨R_Row, "adler32", "()I"⟩
theorem hd_Row_adler32 : y_Row_adler32.cls ≠ "java/lang/invoke/MethodHandle" ∧ y_Row_adler32.cls ≠ "java/lang/invoke/VarHandle" ∧ (parseMethodDescriptor y_Row_adler32.desc).map (fun d => d.parameters.length) = some 0 := by decide +kernel
abbrev b_Row_makeRoom : ByteArray := prog_7_method_12_code
def y_Row_makeRoom : MethodName := ⟨R_Row, "makeRoom", "(I)V"⟩
theorem hd_Row_makeRoom : y_Row_makeRoom.cls ≠ "java/lang/invoke/MethodHandle" ∧ y_Row_makeRoom.cls ≠ "java/lang/invoke/VarHandle" ∧ (parseMethodDescriptor y_Row_makeRoom.desc).map (fun d => d.parameters.length) = some 1 := by decide +kernel
abbrev b_Sha_init : ByteArray := prog_8_method_1_code
def y_Sha_init : MethodName := ⟨R_Sha, "<init>", "()V"⟩
theorem hd_Sha_init : y_Sha_init.cls ≠ "java/lang/invoke/MethodHandle" ∧ y_Sha_init.cls ≠ "java/lang/invoke/VarHandle" ∧ (parseMethodDescriptor y_Sha_init.desc).map (fun d => d.parameters.length) = some 0 := by decide +kernel
abbrev b_Sha_run : ByteArray := prog_8_method_2_code
def y_Sha_run : MethodName := ⟨R_Sha, "run", "(LTextPress$Row;)V"⟩
theorem hd_Sha_run : y_Sha_run.cls ≠ "java/lang/invoke/MethodHandle" ∧ y_Sha_run.cls ≠ "java/lang/invoke/VarHandle" ∧ (parseMethodDescriptor y_Sha_run.desc).map (fun d => d.parameters.length) = some 1 := by decide +kernel
abbrev b_Sha_word : ByteArray := prog_8_method_3_code
def y_Sha_word : MethodName := ⟨R_Sha, "word", "(I)J"⟩
theorem hd_Sha_word : y_Sha_word.cls ≠ "java/lang/invoke/MethodHandle" ∧ y_Sha_word.cls ≠ "java/lang/invoke/VarHandle" ∧ (parseMethodDescriptor y_Sha_word.desc).map (fun d => d.parameters.length) = some 1 := by decide +kernel
abbrev b_Sha_fillWords : ByteArray := prog_8_method_4_code
def y_Sha_fillWords : MethodName := ⟨R_Sha, "fillWords", "(LTextPress$Row;II)V"⟩
theorem hd_Sha_fillWords : y_Sha_fillWords.cls ≠ "java/lang/invoke/MethodHandle" ∧ y_Sha_fillWords.cls ≠ "java/lang/invoke/VarHandle" ∧ (parseMethodDescriptor y_Sha_fillWords.desc).map (fun d => d.parameters.length) = some 3 := by decide +kernel
abbrev b_Sha_paddedByte : ByteArray := prog_8_method_5_code
def y_Sha_paddedByte : MethodName := ⟨R_Sha, "paddedByte", "(LTextPress$Row;II)I"⟩
theorem hd_Sha_paddedByte : y_Sha_paddedByte.cls ≠ "java/lang/invoke/MethodHandle" ∧ y_Sha_paddedByte.cls ≠ "java/lang/invoke/VarHandle" ∧ (parseMethodDescriptor y_Sha_paddedByte.desc).map (fun d => d.parameters.length) = some 3 := by decide +kernel
abbrev b_Sha_mixBlock : ByteArray := prog_8_method_6_code
def y_Sha_mixBlock : MethodName := ⟨R_Sha, "mixBlock", "()V"⟩
theorem hd_Sha_mixBlock : y_Sha_mixBlock.cls ≠ "java/lang/invoke/MethodHandle" ∧ y_Sha_mixBlock.cls ≠ "java/lang/invoke/VarHandle" ∧ (parseMethodDescriptor y_Sha_mixBlock.desc).map (fun d => d.parameters.length) = some 0 := by decide +kernel
abbrev b_Sha_chosen : ByteArray := prog_8_method_7_code
def y_Sha_chosen : MethodName := ⟨R_Sha, "chosen", "(IIII)I"⟩
theorem hd_Sha_chosen : y_Sha_chosen.cls ≠ "java/lang/invoke/MethodHandle" ∧ y_Sha_chosen.cls ≠ "java/lang/invoke/VarHandle" ∧ (parseMethodDescriptor y_Sha_chosen.desc).map (fun d => d.parameters.length) = some 4 := by decide +kernel
abbrev b_Sha_addend : ByteArray := prog_8_method_8_code
def y_Sha_addend : MethodName := ⟨R_Sha, "addend", "(I)I"⟩
theorem hd_Sha_addend : y_Sha_addend.cls ≠ "java/lang/invoke/MethodHandle" ∧ y_Sha_addend.cls ≠ "java/lang/invoke/VarHandle" ∧ (parseMethodDescriptor y_Sha_addend.desc).map (fun d => d.parameters.length) = some 1 := by decide +kernel
abbrev b_Sha_rotated : ByteArray := prog_8_method_9_code
def y_Sha_rotated : MethodName := ⟨R_Sha, "rotated", "(II)I"⟩
theorem hd_Sha_rotated : y_Sha_rotated.cls ≠ "java/lang/invoke/MethodHandle" ∧ y_Sha_rotated.cls ≠ "java/lang/invoke/VarHandle" ∧ (parseMethodDescriptor y_Sha_rotated.desc).map (fun d => d.parameters.length) = some 2 := by decide +kernel
abbrev b_BW_init : ByteArray := prog_3_method_1_code
def y_BW_init : MethodName := ⟨R_BW, "<init>", "()V"⟩
theorem hd_BW_init : y_BW_init.cls ≠ "java/lang/invoke/MethodHandle" ∧ y_BW_init.cls ≠ "java/lang/invoke/VarHandle" ∧ (parseMethodDescriptor y_BW_init.desc).map (fun d => d.parameters.length) = some 0 := by decide +kernel
abbrev b_BW_start : ByteArray := prog_3_method_2_code
def y_BW_start : MethodName := ⟨R_BW, "start", "(LTextPress$Row;)V"⟩
theorem hd_BW_start : y_BW_start.cls ≠ "java/lang/invoke/MethodHandle" ∧ y_BW_start.cls ≠ "java/lang/invoke/VarHandle" ∧ (parseMethodDescriptor y_BW_start.desc).map (fun d => d.parameters.length) = some 1 := by decide +kernel
abbrev b_BW_put : ByteArray := prog_3_method_3_code
def y_BW_put : MethodName := ⟨R_BW, "put", "(II)V"⟩
theorem hd_BW_put : y_BW_put.cls ≠ "java/lang/invoke/MethodHandle" ∧ y_BW_put.cls ≠ "java/lang/invoke/VarHandle" ∧ (parseMethodDescriptor y_BW_put.desc).map (fun d => d.parameters.length) = some 2 := by decide +kernel
abbrev b_BW_fillByte : ByteArray := prog_3_method_4_code
def y_BW_fillByte : MethodName := ⟨R_BW, "fillByte", "()V"⟩
theorem hd_BW_fillByte : y_BW_fillByte.cls ≠ "java/lang/invoke/MethodHandle" ∧ y_BW_fillByte.cls ≠ "java/lang/invoke/VarHandle" ∧ (parseMethodDescriptor y_BW_fillByte.desc).map (fun d => d.parameters.length) = some 0 := by decide +kernel
abbrev b_Fi_init : ByteArray := prog_5_method_1_code
def y_Fi_init : MethodName := ⟨R_Fi, "<init>", "()V"⟩
theorem hd_Fi_init : y_Fi_init.cls ≠ "java/lang/invoke/MethodHandle" ∧ y_Fi_init.cls ≠ "java/lang/invoke/VarHandle" ∧ (parseMethodDescriptor y_Fi_init.desc).map (fun d => d.parameters.length) = some 0 := by decide +kernel
abbrev b_Fi_start : ByteArray := prog_5_method_2_code
def y_Fi_start : MethodName := ⟨R_Fi, "start", "(I)V"⟩
theorem hd_Fi_start : y_Fi_start.cls ≠ "java/lang/invoke/MethodHandle" ∧ y_Fi_start.cls ≠ "java/lang/invoke/VarHandle" ∧ (parseMethodDescriptor y_Fi_start.desc).map (fun d => d.parameters.length) = some 1 := by decide +kernel
abbrev b_Fi_length : ByteArray := prog_5_method_3_code
def y_Fi_length : MethodName := ⟨R_Fi, "length", "()I"⟩
theorem hd_Fi_length : y_Fi_length.cls ≠ "java/lang/invoke/MethodHandle" ∧ y_Fi_length.cls ≠ "java/lang/invoke/VarHandle" ∧ (parseMethodDescriptor y_Fi_length.desc).map (fun d => d.parameters.length) = some 0 := by decide +kernel
abbrev b_Fi_distance : ByteArray := prog_5_method_4_code
def y_Fi_distance : MethodName := ⟨R_Fi, "distance", "()I"⟩
theorem hd_Fi_distance : y_Fi_distance.cls ≠ "java/lang/invoke/MethodHandle" ∧ y_Fi_distance.cls ≠ "java/lang/invoke/VarHandle" ∧ (parseMethodDescriptor y_Fi_distance.desc).map (fun d => d.parameters.length) = some 0 := by decide +kernel
abbrev b_Fi_find : ByteArray := prog_5_method_5_code
def y_Fi_find : MethodName := ⟨R_Fi, "find", "([BII)V"⟩
theorem hd_Fi_find : y_Fi_find.cls ≠ "java/lang/invoke/MethodHandle" ∧ y_Fi_find.cls ≠ "java/lang/invoke/VarHandle" ∧ (parseMethodDescriptor y_Fi_find.desc).map (fun d => d.parameters.length) = some 3 := by decide +kernel
abbrev b_Fi_note : ByteArray := prog_5_method_6_code
def y_Fi_note : MethodName := ⟨R_Fi, "note", "([BIII)V"⟩
theorem hd_Fi_note : y_Fi_note.cls ≠ "java/lang/invoke/MethodHandle" ∧ y_Fi_note.cls ≠ "java/lang/invoke/VarHandle" ∧ (parseMethodDescriptor y_Fi_note.desc).map (fun d => d.parameters.length) = some 4 := by decide +kernel
abbrev b_Fi_better : ByteArray := prog_5_method_7_code
def y_Fi_better : MethodName := ⟨R_Fi, "better", "(II)V"⟩
theorem hd_Fi_better : y_Fi_better.cls ≠ "java/lang/invoke/MethodHandle" ∧ y_Fi_better.cls ≠ "java/lang/invoke/VarHandle" ∧ (parseMethodDescriptor y_Fi_better.desc).map (fun d => d.parameters.length) = some 2 := by decide +kernel
abbrev b_Fi_sameBytes : ByteArray := prog_5_method_8_code
def y_Fi_sameBytes : MethodName := ⟨R_Fi, "sameBytes", "([BIII)I"⟩
theorem hd_Fi_sameBytes : y_Fi_sameBytes.cls ≠ "java/lang/invoke/MethodHandle" ∧ y_Fi_sameBytes.cls ≠ "java/lang/invoke/VarHandle" ∧ (parseMethodDescriptor y_Fi_sameBytes.desc).map (fun d => d.parameters.length) = some 4 := by decide +kernel
abbrev b_Fi_slot : ByteArray := prog_5_method_9_code
def y_Fi_slot : MethodName := ⟨R_Fi, "slot", "([BI)I"⟩
theorem hd_Fi_slot : y_Fi_slot.cls ≠ "java/lang/invoke/MethodHandle" ∧ y_Fi_slot.cls ≠ "java/lang/invoke/VarHandle" ∧ (parseMethodDescriptor y_Fi_slot.desc).map (fun d => d.parameters.length) = some 2 := by decide +kernel
abbrev b_Pr_init : ByteArray := prog_6_method_1_code
def y_Pr_init : MethodName := ⟨R_Pr, "<init>", "()V"⟩
theorem hd_Pr_init : y_Pr_init.cls ≠ "java/lang/invoke/MethodHandle" ∧ y_Pr_init.cls ≠ "java/lang/invoke/VarHandle" ∧ (parseMethodDescriptor y_Pr_init.desc).map (fun d => d.parameters.length) = some 0 := by decide +kernel
abbrev b_Pr_pairs : ByteArray := prog_6_method_2_code
def y_Pr_pairs : MethodName := ⟨R_Pr, "pairs", "()I"⟩
theorem hd_Pr_pairs : y_Pr_pairs.cls ≠ "java/lang/invoke/MethodHandle" ∧ y_Pr_pairs.cls ≠ "java/lang/invoke/VarHandle" ∧ (parseMethodDescriptor y_Pr_pairs.desc).map (fun d => d.parameters.length) = some 0 := by decide +kernel
abbrev b_Pr_literals : ByteArray := prog_6_method_3_code
def y_Pr_literals : MethodName := ⟨R_Pr, "literals", "()I"⟩
theorem hd_Pr_literals : y_Pr_literals.cls ≠ "java/lang/invoke/MethodHandle" ∧ y_Pr_literals.cls ≠ "java/lang/invoke/VarHandle" ∧ (parseMethodDescriptor y_Pr_literals.desc).map (fun d => d.parameters.length) = some 0 := by decide +kernel
abbrev b_Pr_run : ByteArray := prog_6_method_4_code
def y_Pr_run : MethodName := ⟨R_Pr, "run", "(LTextPress$Row;LTextPress$Row;)V"⟩
theorem hd_Pr_run : y_Pr_run.cls ≠ "java/lang/invoke/MethodHandle" ∧ y_Pr_run.cls ≠ "java/lang/invoke/VarHandle" ∧ (parseMethodDescriptor y_Pr_run.desc).map (fun d => d.parameters.length) = some 2 := by decide +kernel
abbrev b_Pr_startForm : ByteArray := prog_6_method_5_code
def y_Pr_startForm : MethodName := ⟨R_Pr, "startForm", "(LTextPress$Row;)V"⟩
theorem hd_Pr_startForm : y_Pr_startForm.cls ≠ "java/lang/invoke/MethodHandle" ∧ y_Pr_startForm.cls ≠ "java/lang/invoke/VarHandle" ∧ (parseMethodDescriptor y_Pr_startForm.desc).map (fun d => d.parameters.length) = some 1 := by decide +kernel
abbrev b_Pr_putPair : ByteArray := prog_6_method_6_code
def y_Pr_putPair : MethodName := ⟨R_Pr, "putPair", "(II)V"⟩
theorem hd_Pr_putPair : y_Pr_putPair.cls ≠ "java/lang/invoke/MethodHandle" ∧ y_Pr_putPair.cls ≠ "java/lang/invoke/VarHandle" ∧ (parseMethodDescriptor y_Pr_putPair.desc).map (fun d => d.parameters.length) = some 2 := by decide +kernel
abbrev b_Pr_putSymbol : ByteArray := prog_6_method_7_code
def y_Pr_putSymbol : MethodName := ⟨R_Pr, "putSymbol", "(I)V"⟩
theorem hd_Pr_putSymbol : y_Pr_putSymbol.cls ≠ "java/lang/invoke/MethodHandle" ∧ y_Pr_putSymbol.cls ≠ "java/lang/invoke/VarHandle" ∧ (parseMethodDescriptor y_Pr_putSymbol.desc).map (fun d => d.parameters.length) = some 1 := by decide +kernel
abbrev b_Pr_codeOf : ByteArray := prog_6_method_8_code
def y_Pr_codeOf : MethodName := ⟨R_Pr, "codeOf", "(I[I)I"⟩
theorem hd_Pr_codeOf : y_Pr_codeOf.cls ≠ "java/lang/invoke/MethodHandle" ∧ y_Pr_codeOf.cls ≠ "java/lang/invoke/VarHandle" ∧ (parseMethodDescriptor y_Pr_codeOf.desc).map (fun d => d.parameters.length) = some 2 := by decide +kernel
abbrev b_Pr_reversed : ByteArray := prog_6_method_9_code
def y_Pr_reversed : MethodName := ⟨R_Pr, "reversed", "(II)I"⟩
theorem hd_Pr_reversed : y_Pr_reversed.cls ≠ "java/lang/invoke/MethodHandle" ∧ y_Pr_reversed.cls ≠ "java/lang/invoke/VarHandle" ∧ (parseMethodDescriptor y_Pr_reversed.desc).map (fun d => d.parameters.length) = some 2 := by decide +kernel
abbrev b_BR_init : ByteArray := prog_2_method_1_code
def y_BR_init : MethodName := ⟨R_BR, "<init>", "()V"⟩
theorem hd_BR_init : y_BR_init.cls ≠ "java/lang/invoke/MethodHandle" ∧ y_BR_init.cls ≠ "java/lang/invoke/VarHandle" ∧ (parseMethodDescriptor y_BR_init.desc).map (fun d => d.parameters.length) = some 0 := by decide +kernel
abbrev b_BR_start : ByteArray := prog_2_method_2_code
def y_BR_start : MethodName := ⟨R_BR, "start", "(LTextPress$Row;)V"⟩
theorem hd_BR_start : y_BR_start.cls ≠ "java/lang/invoke/MethodHandle" ∧ y_BR_start.cls ≠ "java/lang/invoke/VarHandle" ∧ (parseMethodDescriptor y_BR_start.desc).map (fun d => d.parameters.length) = some 1 := by decide +kernel
abbrev b_BR_take : ByteArray := prog_2_method_3_code
def y_BR_take : MethodName := ⟨R_BR, "take", "(I)I"⟩
theorem hd_BR_take : y_BR_take.cls ≠ "java/lang/invoke/MethodHandle" ∧ y_BR_take.cls ≠ "java/lang/invoke/VarHandle" ∧ (parseMethodDescriptor y_BR_take.desc).map (fun d => d.parameters.length) = some 1 := by decide +kernel
abbrev b_BR_takeNumber : ByteArray := prog_2_method_4_code
def y_BR_takeNumber : MethodName := ⟨R_BR, "takeNumber", "()I"⟩
theorem hd_BR_takeNumber : y_BR_takeNumber.cls ≠ "java/lang/invoke/MethodHandle" ∧ y_BR_takeNumber.cls ≠ "java/lang/invoke/VarHandle" ∧ (parseMethodDescriptor y_BR_takeNumber.desc).map (fun d => d.parameters.length) = some 0 := by decide +kernel
abbrev b_BR_skipToByte : ByteArray := prog_2_method_5_code
def y_BR_skipToByte : MethodName := ⟨R_BR, "skipToByte", "()V"⟩
theorem hd_BR_skipToByte : y_BR_skipToByte.cls ≠ "java/lang/invoke/MethodHandle" ∧ y_BR_skipToByte.cls ≠ "java/lang/invoke/VarHandle" ∧ (parseMethodDescriptor y_BR_skipToByte.desc).map (fun d => d.parameters.length) = some 0 := by decide +kernel
abbrev b_BR_ranOut : ByteArray := prog_2_method_6_code
def y_BR_ranOut : MethodName := ⟨R_BR, "ranOut", "()Z"⟩
theorem hd_BR_ranOut : y_BR_ranOut.cls ≠ "java/lang/invoke/MethodHandle" ∧ y_BR_ranOut.cls ≠ "java/lang/invoke/VarHandle" ∧ (parseMethodDescriptor y_BR_ranOut.desc).map (fun d => d.parameters.length) = some 0 := by decide +kernel
abbrev b_BR_isAtEnd : ByteArray := prog_2_method_7_code
def y_BR_isAtEnd : MethodName := ⟨R_BR, "isAtEnd", "()Z"⟩
theorem hd_BR_isAtEnd : y_BR_isAtEnd.cls ≠ "java/lang/invoke/MethodHandle" ∧ y_BR_isAtEnd.cls ≠ "java/lang/invoke/VarHandle" ∧ (parseMethodDescriptor y_BR_isAtEnd.desc).map (fun d => d.parameters.length) = some 0 := by decide +kernel
abbrev b_Co_init : ByteArray := prog_4_method_1_code
def y_Co_init : MethodName := ⟨R_Co, "<init>", "(I)V"⟩
theorem hd_Co_init : y_Co_init.cls ≠ "java/lang/invoke/MethodHandle" ∧ y_Co_init.cls ≠ "java/lang/invoke/VarHandle" ∧ (parseMethodDescriptor y_Co_init.desc).map (fun d => d.parameters.length) = some 1 := by decide +kernel
abbrev b_Co_tell : ByteArray := prog_4_method_2_code
def y_Co_tell : MethodName := ⟨R_Co, "tell", "([III)V"⟩
theorem hd_Co_tell : y_Co_tell.cls ≠ "java/lang/invoke/MethodHandle" ∧ y_Co_tell.cls ≠ "java/lang/invoke/VarHandle" ∧ (parseMethodDescriptor y_Co_tell.desc).map (fun d => d.parameters.length) = some 3 := by decide +kernel
abbrev b_Co_isFull : ByteArray := prog_4_method_3_code
def y_Co_isFull : MethodName := ⟨R_Co, "isFull", "()Z"⟩
theorem hd_Co_isFull : y_Co_isFull.cls ≠ "java/lang/invoke/MethodHandle" ∧ y_Co_isFull.cls ≠ "java/lang/invoke/VarHandle" ∧ (parseMethodDescriptor y_Co_isFull.desc).map (fun d => d.parameters.length) = some 0 := by decide +kernel
abbrev b_Co_isScant : ByteArray := prog_4_method_4_code
def y_Co_isScant : MethodName := ⟨R_Co, "isScant", "()Z"⟩
theorem hd_Co_isScant : y_Co_isScant.cls ≠ "java/lang/invoke/MethodHandle" ∧ y_Co_isScant.cls ≠ "java/lang/invoke/VarHandle" ∧ (parseMethodDescriptor y_Co_isScant.desc).map (fun d => d.parameters.length) = some 0 := by decide +kernel
abbrev b_Co_next : ByteArray := prog_4_method_5_code
def y_Co_next : MethodName := ⟨R_Co, "next", "(LTextPress$BitReader;)I"⟩
theorem hd_Co_next : y_Co_next.cls ≠ "java/lang/invoke/MethodHandle" ∧ y_Co_next.cls ≠ "java/lang/invoke/VarHandle" ∧ (parseMethodDescriptor y_Co_next.desc).map (fun d => d.parameters.length) = some 1 := by decide +kernel
abbrev b_Un_init : ByteArray := prog_9_method_1_code
def y_Un_init : MethodName := ⟨R_Un, "<init>", "()V"⟩
theorem hd_Un_init : y_Un_init.cls ≠ "java/lang/invoke/MethodHandle" ∧ y_Un_init.cls ≠ "java/lang/invoke/VarHandle" ∧ (parseMethodDescriptor y_Un_init.desc).map (fun d => d.parameters.length) = some 0 := by decide +kernel
abbrev b_Un_blocks : ByteArray := prog_9_method_2_code
def y_Un_blocks : MethodName := ⟨R_Un, "blocks", "()I"⟩
theorem hd_Un_blocks : y_Un_blocks.cls ≠ "java/lang/invoke/MethodHandle" ∧ y_Un_blocks.cls ≠ "java/lang/invoke/VarHandle" ∧ (parseMethodDescriptor y_Un_blocks.desc).map (fun d => d.parameters.length) = some 0 := by decide +kernel
abbrev b_Un_toldBlocks : ByteArray := prog_9_method_3_code
def y_Un_toldBlocks : MethodName := ⟨R_Un, "toldBlocks", "()I"⟩
theorem hd_Un_toldBlocks : y_Un_toldBlocks.cls ≠ "java/lang/invoke/MethodHandle" ∧ y_Un_toldBlocks.cls ≠ "java/lang/invoke/VarHandle" ∧ (parseMethodDescriptor y_Un_toldBlocks.desc).map (fun d => d.parameters.length) = some 0 := by decide +kernel
abbrev b_Un_read : ByteArray := prog_9_method_4_code
def y_Un_read : MethodName := ⟨R_Un, "read", "(LTextPress$Row;LTextPress$Row;)Z"⟩
theorem hd_Un_read : y_Un_read.cls ≠ "java/lang/invoke/MethodHandle" ∧ y_Un_read.cls ≠ "java/lang/invoke/VarHandle" ∧ (parseMethodDescriptor y_Un_read.desc).map (fun d => d.parameters.length) = some 2 := by decide +kernel
abbrev b_Un_headIsRight : ByteArray := prog_9_method_5_code
def y_Un_headIsRight : MethodName := ⟨R_Un, "headIsRight", "()Z"⟩
theorem hd_Un_headIsRight : y_Un_headIsRight.cls ≠ "java/lang/invoke/MethodHandle" ∧ y_Un_headIsRight.cls ≠ "java/lang/invoke/VarHandle" ∧ (parseMethodDescriptor y_Un_headIsRight.desc).map (fun d => d.parameters.length) = some 0 := by decide +kernel
abbrev b_Un_readBlock : ByteArray := prog_9_method_6_code
def y_Un_readBlock : MethodName := ⟨R_Un, "readBlock", "(ILTextPress$Row;)Z"⟩
theorem hd_Un_readBlock : y_Un_readBlock.cls ≠ "java/lang/invoke/MethodHandle" ∧ y_Un_readBlock.cls ≠ "java/lang/invoke/VarHandle" ∧ (parseMethodDescriptor y_Un_readBlock.desc).map (fun d => d.parameters.length) = some 2 := by decide +kernel
abbrev b_Un_readStored : ByteArray := prog_9_method_7_code
def y_Un_readStored : MethodName := ⟨R_Un, "readStored", "(LTextPress$Row;)Z"⟩
theorem hd_Un_readStored : y_Un_readStored.cls ≠ "java/lang/invoke/MethodHandle" ∧ y_Un_readStored.cls ≠ "java/lang/invoke/VarHandle" ∧ (parseMethodDescriptor y_Un_readStored.desc).map (fun d => d.parameters.length) = some 1 := by decide +kernel
abbrev b_Un_readCoded : ByteArray := prog_9_method_8_code
def y_Un_readCoded : MethodName := ⟨R_Un, "readCoded", "(LTextPress$Code;LTextPress$Code;LTextPress$Row;)Z"⟩
theorem hd_Un_readCoded : y_Un_readCoded.cls ≠ "java/lang/invoke/MethodHandle" ∧ y_Un_readCoded.cls ≠ "java/lang/invoke/VarHandle" ∧ (parseMethodDescriptor y_Un_readCoded.desc).map (fun d => d.parameters.length) = some 3 := by decide +kernel
abbrev b_Un_readPair : ByteArray := prog_9_method_9_code
def y_Un_readPair : MethodName := ⟨R_Un, "readPair", "(ILTextPress$Code;LTextPress$Row;)Z"⟩
theorem hd_Un_readPair : y_Un_readPair.cls ≠ "java/lang/invoke/MethodHandle" ∧ y_Un_readPair.cls ≠ "java/lang/invoke/VarHandle" ∧ (parseMethodDescriptor y_Un_readPair.desc).map (fun d => d.parameters.length) = some 3 := by decide +kernel
abbrev b_Un_readCodes : ByteArray := prog_9_method_10_code
def y_Un_readCodes : MethodName := ⟨R_Un, "readCodes", "()Z"⟩
theorem hd_Un_readCodes : y_Un_readCodes.cls ≠ "java/lang/invoke/MethodHandle" ∧ y_Un_readCodes.cls ≠ "java/lang/invoke/VarHandle" ∧ (parseMethodDescriptor y_Un_readCodes.desc).map (fun d => d.parameters.length) = some 0 := by decide +kernel
abbrev b_Un_readLengths : ByteArray := prog_9_method_11_code
def y_Un_readLengths : MethodName := ⟨R_Un, "readLengths", "(I)Z"⟩
theorem hd_Un_readLengths : y_Un_readLengths.cls ≠ "java/lang/invoke/MethodHandle" ∧ y_Un_readLengths.cls ≠ "java/lang/invoke/VarHandle" ∧ (parseMethodDescriptor y_Un_readLengths.desc).map (fun d => d.parameters.length) = some 1 := by decide +kernel
abbrev b_Un_readTimes : ByteArray := prog_9_method_12_code
def y_Un_readTimes : MethodName := ⟨R_Un, "readTimes", "(I)I"⟩
theorem hd_Un_readTimes : y_Un_readTimes.cls ≠ "java/lang/invoke/MethodHandle" ∧ y_Un_readTimes.cls ≠ "java/lang/invoke/VarHandle" ∧ (parseMethodDescriptor y_Un_readTimes.desc).map (fun d => d.parameters.length) = some 1 := by decide +kernel
abbrev b_Mo_init : ByteArray := prog_11_method_1_code
def y_Mo_init : MethodName := ⟨R_Mo, "<init>", "()V"⟩
theorem hd_Mo_init : y_Mo_init.cls ≠ "java/lang/invoke/MethodHandle" ∧ y_Mo_init.cls ≠ "java/lang/invoke/VarHandle" ∧ (parseMethodDescriptor y_Mo_init.desc).map (fun d => d.parameters.length) = some 0 := by decide +kernel
abbrev b_Mo_thrown : ByteArray := prog_11_method_2_code
def y_Mo_thrown : MethodName := ⟨R_Mo, "thrown", "()I"⟩
theorem hd_Mo_thrown : y_Mo_thrown.cls ≠ "java/lang/invoke/MethodHandle" ∧ y_Mo_thrown.cls ≠ "java/lang/invoke/VarHandle" ∧ (parseMethodDescriptor y_Mo_thrown.desc).map (fun d => d.parameters.length) = some 0 := by decide +kernel
abbrev b_Mo_refuse : ByteArray := prog_11_method_3_code
def y_Mo_refuse : MethodName := ⟨R_Mo, "refuse", "(I)I"⟩
theorem hd_Mo_refuse : y_Mo_refuse.cls ≠ "java/lang/invoke/MethodHandle" ∧ y_Mo_refuse.cls ≠ "java/lang/invoke/VarHandle" ∧ (parseMethodDescriptor y_Mo_refuse.desc).map (fun d => d.parameters.length) = some 1 := by decide +kernel
abbrev b_Mo_feed : ByteArray := prog_11_method_4_code
def y_Mo_feed : MethodName := ⟨R_Mo, "feed", "(IIIII)I"⟩
theorem hd_Mo_feed : y_Mo_feed.cls ≠ "java/lang/invoke/MethodHandle" ∧ y_Mo_feed.cls ≠ "java/lang/invoke/VarHandle" ∧ (parseMethodDescriptor y_Mo_feed.desc).map (fun d => d.parameters.length) = some 5 := by decide +kernel
abbrev b_Mo_end : ByteArray := prog_11_method_5_code
def y_Mo_end : MethodName := ⟨R_Mo, "end", "(I)I"⟩
theorem hd_Mo_end : y_Mo_end.cls ≠ "java/lang/invoke/MethodHandle" ∧ y_Mo_end.cls ≠ "java/lang/invoke/VarHandle" ∧ (parseMethodDescriptor y_Mo_end.desc).map (fun d => d.parameters.length) = some 1 := by decide +kernel
abbrev b_Mo_change : ByteArray := prog_11_method_6_code
def y_Mo_change : MethodName := ⟨R_Mo, "change", "(II)V"⟩
theorem hd_Mo_change : y_Mo_change.cls ≠ "java/lang/invoke/MethodHandle" ∧ y_Mo_change.cls ≠ "java/lang/invoke/VarHandle" ∧ (parseMethodDescriptor y_Mo_change.desc).map (fun d => d.parameters.length) = some 2 := by decide +kernel
abbrev b_Mo_putBit : ByteArray := prog_11_method_7_code
def y_Mo_putBit : MethodName := ⟨R_Mo, "putBit", "(I)V"⟩
theorem hd_Mo_putBit : y_Mo_putBit.cls ≠ "java/lang/invoke/MethodHandle" ∧ y_Mo_putBit.cls ≠ "java/lang/invoke/VarHandle" ∧ (parseMethodDescriptor y_Mo_putBit.desc).map (fun d => d.parameters.length) = some 1 := by decide +kernel
abbrev b_Mo_putCode : ByteArray := prog_11_method_8_code
def y_Mo_putCode : MethodName := ⟨R_Mo, "putCode", "(II)V"⟩
theorem hd_Mo_putCode : y_Mo_putCode.cls ≠ "java/lang/invoke/MethodHandle" ∧ y_Mo_putCode.cls ≠ "java/lang/invoke/VarHandle" ∧ (parseMethodDescriptor y_Mo_putCode.desc).map (fun d => d.parameters.length) = some 2 := by decide +kernel
abbrev b_Mo_putNumber : ByteArray := prog_11_method_9_code
def y_Mo_putNumber : MethodName := ⟨R_Mo, "putNumber", "(II)V"⟩
theorem hd_Mo_putNumber : y_Mo_putNumber.cls ≠ "java/lang/invoke/MethodHandle" ∧ y_Mo_putNumber.cls ≠ "java/lang/invoke/VarHandle" ∧ (parseMethodDescriptor y_Mo_putNumber.desc).map (fun d => d.parameters.length) = some 2 := by decide +kernel
abbrev b_Mo_putSign : ByteArray := prog_11_method_10_code
def y_Mo_putSign : MethodName := ⟨R_Mo, "putSign", "(I)V"⟩
theorem hd_Mo_putSign : y_Mo_putSign.cls ≠ "java/lang/invoke/MethodHandle" ∧ y_Mo_putSign.cls ≠ "java/lang/invoke/VarHandle" ∧ (parseMethodDescriptor y_Mo_putSign.desc).map (fun d => d.parameters.length) = some 1 := by decide +kernel
abbrev b_Mo_lengthBits : ByteArray := prog_11_method_11_code
def y_Mo_lengthBits : MethodName := ⟨R_Mo, "lengthBits", "(I)I"⟩
theorem hd_Mo_lengthBits : y_Mo_lengthBits.cls ≠ "java/lang/invoke/MethodHandle" ∧ y_Mo_lengthBits.cls ≠ "java/lang/invoke/VarHandle" ∧ (parseMethodDescriptor y_Mo_lengthBits.desc).map (fun d => d.parameters.length) = some 1 := by decide +kernel
abbrev b_Mo_lengthBase : ByteArray := prog_11_method_12_code
def y_Mo_lengthBase : MethodName := ⟨R_Mo, "lengthBase", "(I)I"⟩
theorem hd_Mo_lengthBase : y_Mo_lengthBase.cls ≠ "java/lang/invoke/MethodHandle" ∧ y_Mo_lengthBase.cls ≠ "java/lang/invoke/VarHandle" ∧ (parseMethodDescriptor y_Mo_lengthBase.desc).map (fun d => d.parameters.length) = some 1 := by decide +kernel
abbrev b_Mo_distanceBits : ByteArray := prog_11_method_13_code
def y_Mo_distanceBits : MethodName := ⟨R_Mo, "distanceBits", "(I)I"⟩
theorem hd_Mo_distanceBits : y_Mo_distanceBits.cls ≠ "java/lang/invoke/MethodHandle" ∧ y_Mo_distanceBits.cls ≠ "java/lang/invoke/VarHandle" ∧ (parseMethodDescriptor y_Mo_distanceBits.desc).map (fun d => d.parameters.length) = some 1 := by decide +kernel
abbrev b_Mo_distanceBase : ByteArray := prog_11_method_14_code
def y_Mo_distanceBase : MethodName := ⟨R_Mo, "distanceBase", "(I)I"⟩
theorem hd_Mo_distanceBase : y_Mo_distanceBase.cls ≠ "java/lang/invoke/MethodHandle" ∧ y_Mo_distanceBase.cls ≠ "java/lang/invoke/VarHandle" ∧ (parseMethodDescriptor y_Mo_distanceBase.desc).map (fun d => d.parameters.length) = some 1 := by decide +kernel
abbrev b_Mo_putPair : ByteArray := prog_11_method_15_code
def y_Mo_putPair : MethodName := ⟨R_Mo, "putPair", "(II)V"⟩
theorem hd_Mo_putPair : y_Mo_putPair.cls ≠ "java/lang/invoke/MethodHandle" ∧ y_Mo_putPair.cls ≠ "java/lang/invoke/VarHandle" ∧ (parseMethodDescriptor y_Mo_putPair.desc).map (fun d => d.parameters.length) = some 2 := by decide +kernel
abbrev b_Mo_common : ByteArray := prog_11_method_16_code
def y_Mo_common : MethodName := ⟨R_Mo, "common", "(II)I"⟩
theorem hd_Mo_common : y_Mo_common.cls ≠ "java/lang/invoke/MethodHandle" ∧ y_Mo_common.cls ≠ "java/lang/invoke/VarHandle" ∧ (parseMethodDescriptor y_Mo_common.desc).map (fun d => d.parameters.length) = some 2 := by decide +kernel
abbrev b_Mo_adler : ByteArray := prog_11_method_17_code
def y_Mo_adler : MethodName := ⟨R_Mo, "adler", "([BI)I"⟩
theorem hd_Mo_adler : y_Mo_adler.cls ≠ "java/lang/invoke/MethodHandle" ∧ y_Mo_adler.cls ≠ "java/lang/invoke/VarHandle" ∧ (parseMethodDescriptor y_Mo_adler.desc).map (fun d => d.parameters.length) = some 2 := by decide +kernel
abbrev b_Mo_press : ByteArray := prog_11_method_18_code
def y_Mo_press : MethodName := ⟨R_Mo, "press", "()I"⟩
theorem hd_Mo_press : y_Mo_press.cls ≠ "java/lang/invoke/MethodHandle" ∧ y_Mo_press.cls ≠ "java/lang/invoke/VarHandle" ∧ (parseMethodDescriptor y_Mo_press.desc).map (fun d => d.parameters.length) = some 0 := by decide +kernel
abbrev b_Mo_bit : ByteArray := prog_11_method_19_code
def y_Mo_bit : MethodName := ⟨R_Mo, "bit", "()I"⟩
theorem hd_Mo_bit : y_Mo_bit.cls ≠ "java/lang/invoke/MethodHandle" ∧ y_Mo_bit.cls ≠ "java/lang/invoke/VarHandle" ∧ (parseMethodDescriptor y_Mo_bit.desc).map (fun d => d.parameters.length) = some 0 := by decide +kernel
abbrev b_Mo_number : ByteArray := prog_11_method_20_code
def y_Mo_number : MethodName := ⟨R_Mo, "number", "(I)I"⟩
theorem hd_Mo_number : y_Mo_number.cls ≠ "java/lang/invoke/MethodHandle" ∧ y_Mo_number.cls ≠ "java/lang/invoke/VarHandle" ∧ (parseMethodDescriptor y_Mo_number.desc).map (fun d => d.parameters.length) = some 1 := by decide +kernel
abbrev b_Mo_assign : ByteArray := prog_11_method_21_code
def y_Mo_assign : MethodName := ⟨R_Mo, "assign", "(II)V"⟩
theorem hd_Mo_assign : y_Mo_assign.cls ≠ "java/lang/invoke/MethodHandle" ∧ y_Mo_assign.cls ≠ "java/lang/invoke/VarHandle" ∧ (parseMethodDescriptor y_Mo_assign.desc).map (fun d => d.parameters.length) = some 2 := by decide +kernel
abbrev b_Mo_fill : ByteArray := prog_11_method_22_code
def y_Mo_fill : MethodName := ⟨R_Mo, "fill", "(II)I"⟩
theorem hd_Mo_fill : y_Mo_fill.cls ≠ "java/lang/invoke/MethodHandle" ∧ y_Mo_fill.cls ≠ "java/lang/invoke/VarHandle" ∧ (parseMethodDescriptor y_Mo_fill.desc).map (fun d => d.parameters.length) = some 2 := by decide +kernel
abbrev b_Mo_sign : ByteArray := prog_11_method_23_code
def y_Mo_sign : MethodName := ⟨R_Mo, "sign", "(II)I"⟩
theorem hd_Mo_sign : y_Mo_sign.cls ≠ "java/lang/invoke/MethodHandle" ∧ y_Mo_sign.cls ≠ "java/lang/invoke/VarHandle" ∧ (parseMethodDescriptor y_Mo_sign.desc).map (fun d => d.parameters.length) = some 2 := by decide +kernel
abbrev b_Mo_give : ByteArray := prog_11_method_24_code
def y_Mo_give : MethodName := ⟨R_Mo, "give", "(I)V"⟩
theorem hd_Mo_give : y_Mo_give.cls ≠ "java/lang/invoke/MethodHandle" ∧ y_Mo_give.cls ≠ "java/lang/invoke/VarHandle" ∧ (parseMethodDescriptor y_Mo_give.desc).map (fun d => d.parameters.length) = some 1 := by decide +kernel
abbrev b_Mo_pair : ByteArray := prog_11_method_25_code
def y_Mo_pair : MethodName := ⟨R_Mo, "pair", "(I)V"⟩
theorem hd_Mo_pair : y_Mo_pair.cls ≠ "java/lang/invoke/MethodHandle" ∧ y_Mo_pair.cls ≠ "java/lang/invoke/VarHandle" ∧ (parseMethodDescriptor y_Mo_pair.desc).map (fun d => d.parameters.length) = some 1 := by decide +kernel
abbrev b_Mo_signs : ByteArray := prog_11_method_26_code
def y_Mo_signs : MethodName := ⟨R_Mo, "signs", "()V"⟩
theorem hd_Mo_signs : y_Mo_signs.cls ≠ "java/lang/invoke/MethodHandle" ∧ y_Mo_signs.cls ≠ "java/lang/invoke/VarHandle" ∧ (parseMethodDescriptor y_Mo_signs.desc).map (fun d => d.parameters.length) = some 0 := by decide +kernel
abbrev b_Mo_fixed : ByteArray := prog_11_method_27_code
def y_Mo_fixed : MethodName := ⟨R_Mo, "fixed", "()V"⟩
theorem hd_Mo_fixed : y_Mo_fixed.cls ≠ "java/lang/invoke/MethodHandle" ∧ y_Mo_fixed.cls ≠ "java/lang/invoke/VarHandle" ∧ (parseMethodDescriptor y_Mo_fixed.desc).map (fun d => d.parameters.length) = some 0 := by decide +kernel
abbrev b_Mo_stored : ByteArray := prog_11_method_28_code
def y_Mo_stored : MethodName := ⟨R_Mo, "stored", "()V"⟩
theorem hd_Mo_stored : y_Mo_stored.cls ≠ "java/lang/invoke/MethodHandle" ∧ y_Mo_stored.cls ≠ "java/lang/invoke/VarHandle" ∧ (parseMethodDescriptor y_Mo_stored.desc).map (fun d => d.parameters.length) = some 0 := by decide +kernel
abbrev b_Mo_placeOf : ByteArray := prog_11_method_29_code
def y_Mo_placeOf : MethodName := ⟨R_Mo, "placeOf", "(I)I"⟩
theorem hd_Mo_placeOf : y_Mo_placeOf.cls ≠ "java/lang/invoke/MethodHandle" ∧ y_Mo_placeOf.cls ≠ "java/lang/invoke/VarHandle" ∧ (parseMethodDescriptor y_Mo_placeOf.desc).map (fun d => d.parameters.length) = some 1 := by decide +kernel
abbrev b_Mo_table : ByteArray := prog_11_method_30_code
def y_Mo_table : MethodName := ⟨R_Mo, "table", "()V"⟩
theorem hd_Mo_table : y_Mo_table.cls ≠ "java/lang/invoke/MethodHandle" ∧ y_Mo_table.cls ≠ "java/lang/invoke/VarHandle" ∧ (parseMethodDescriptor y_Mo_table.desc).map (fun d => d.parameters.length) = some 0 := by decide +kernel
abbrev b_Mo_block : ByteArray := prog_11_method_31_code
def y_Mo_block : MethodName := ⟨R_Mo, "block", "(I)V"⟩
theorem hd_Mo_block : y_Mo_block.cls ≠ "java/lang/invoke/MethodHandle" ∧ y_Mo_block.cls ≠ "java/lang/invoke/VarHandle" ∧ (parseMethodDescriptor y_Mo_block.desc).map (fun d => d.parameters.length) = some 1 := by decide +kernel
abbrev b_Mo_open : ByteArray := prog_11_method_32_code
def y_Mo_open : MethodName := ⟨R_Mo, "open", "()I"⟩
theorem hd_Mo_open : y_Mo_open.cls ≠ "java/lang/invoke/MethodHandle" ∧ y_Mo_open.cls ≠ "java/lang/invoke/VarHandle" ∧ (parseMethodDescriptor y_Mo_open.desc).map (fun d => d.parameters.length) = some 0 := by decide +kernel
abbrev b_Mo_turn : ByteArray := prog_11_method_33_code
def y_Mo_turn : MethodName := ⟨R_Mo, "turn", "()I"⟩
theorem hd_Mo_turn : y_Mo_turn.cls ≠ "java/lang/invoke/MethodHandle" ∧ y_Mo_turn.cls ≠ "java/lang/invoke/VarHandle" ∧ (parseMethodDescriptor y_Mo_turn.desc).map (fun d => d.parameters.length) = some 0 := by decide +kernel
abbrev b_Mo_padded : ByteArray := prog_11_method_34_code
def y_Mo_padded : MethodName := ⟨R_Mo, "padded", "(II)I"⟩
theorem hd_Mo_padded : y_Mo_padded.cls ≠ "java/lang/invoke/MethodHandle" ∧ y_Mo_padded.cls ≠ "java/lang/invoke/VarHandle" ∧ (parseMethodDescriptor y_Mo_padded.desc).map (fun d => d.parameters.length) = some 2 := by decide +kernel
abbrev b_Mo_turned : ByteArray := prog_11_method_35_code
def y_Mo_turned : MethodName := ⟨R_Mo, "turned", "(II)I"⟩
theorem hd_Mo_turned : y_Mo_turned.cls ≠ "java/lang/invoke/MethodHandle" ∧ y_Mo_turned.cls ≠ "java/lang/invoke/VarHandle" ∧ (parseMethodDescriptor y_Mo_turned.desc).map (fun d => d.parameters.length) = some 2 := by decide +kernel
abbrev b_Mo_chunk : ByteArray := prog_11_method_36_code
def y_Mo_chunk : MethodName := ⟨R_Mo, "chunk", "(II)V"⟩
theorem hd_Mo_chunk : y_Mo_chunk.cls ≠ "java/lang/invoke/MethodHandle" ∧ y_Mo_chunk.cls ≠ "java/lang/invoke/VarHandle" ∧ (parseMethodDescriptor y_Mo_chunk.desc).map (fun d => d.parameters.length) = some 2 := by decide +kernel
abbrev b_Mo_hash : ByteArray := prog_11_method_37_code
def y_Mo_hash : MethodName := ⟨R_Mo, "hash", "(I)J"⟩
theorem hd_Mo_hash : y_Mo_hash.cls ≠ "java/lang/invoke/MethodHandle" ∧ y_Mo_hash.cls ≠ "java/lang/invoke/VarHandle" ∧ (parseMethodDescriptor y_Mo_hash.desc).map (fun d => d.parameters.length) = some 1 := by decide +kernel
abbrev b_Mo_letter : ByteArray := prog_11_method_38_code
def y_Mo_letter : MethodName := ⟨R_Mo, "letter", "(I)I"⟩
theorem hd_Mo_letter : y_Mo_letter.cls ≠ "java/lang/invoke/MethodHandle" ∧ y_Mo_letter.cls ≠ "java/lang/invoke/VarHandle" ∧ (parseMethodDescriptor y_Mo_letter.desc).map (fun d => d.parameters.length) = some 1 := by decide +kernel
abbrev b_Mo_count : ByteArray := prog_11_method_39_code
def y_Mo_count : MethodName := ⟨R_Mo, "count", "(I)I"⟩
theorem hd_Mo_count : y_Mo_count.cls ≠ "java/lang/invoke/MethodHandle" ∧ y_Mo_count.cls ≠ "java/lang/invoke/VarHandle" ∧ (parseMethodDescriptor y_Mo_count.desc).map (fun d => d.parameters.length) = some 1 := by decide +kernel
abbrev b_JA_fill : ByteArray := prog_23_method_103_code
def y_JA_fill : MethodName := ⟨"java/util/Arrays", "fill", "([II)V"⟩
theorem hd_JA_fill : y_JA_fill.cls ≠ "java/lang/invoke/MethodHandle" ∧ y_JA_fill.cls ≠ "java/lang/invoke/VarHandle" ∧ (parseMethodDescriptor y_JA_fill.desc).map (fun d => d.parameters.length) = some 2 := by decide +kernel
abbrev b_JA_copyOf : ByteArray := prog_23_method_121_code
def y_JA_copyOf : MethodName := ⟨"java/util/Arrays", "copyOf", "([BI)[B"⟩
theorem hd_JA_copyOf : y_JA_copyOf.cls ≠ "java/lang/invoke/MethodHandle" ∧ y_JA_copyOf.cls ≠ "java/lang/invoke/VarHandle" ∧ (parseMethodDescriptor y_JA_copyOf.desc).map (fun d => d.parameters.length) = some 2 := by decide +kernel
abbrev b_La_feed : ByteArray := method_3_code
def y_La_feed : MethodName := ⟨R_La, "feed", "(LTextPress;IIIII[J)I"⟩
theorem hd_La_feed : y_La_feed.cls ≠ "java/lang/invoke/MethodHandle" ∧ y_La_feed.cls ≠ "java/lang/invoke/VarHandle" ∧ (parseMethodDescriptor y_La_feed.desc).map (fun d => d.parameters.length) = some 7 := by decide +kernel
abbrev b_La_end : ByteArray := method_4_code
def y_La_end : MethodName := ⟨R_La, "end", "(LTextPress;I[J)I"⟩
theorem hd_La_end : y_La_end.cls ≠ "java/lang/invoke/MethodHandle" ∧ y_La_end.cls ≠ "java/lang/invoke/VarHandle" ∧ (parseMethodDescriptor y_La_end.desc).map (fun d => d.parameters.length) = some 3 := by decide +kernel
abbrev b_La_change : ByteArray := method_5_code
def y_La_change : MethodName := ⟨R_La, "change", "(LTextPress;II)I"⟩
theorem hd_La_change : y_La_change.cls ≠ "java/lang/invoke/MethodHandle" ∧ y_La_change.cls ≠ "java/lang/invoke/VarHandle" ∧ (parseMethodDescriptor y_La_change.desc).map (fun d => d.parameters.length) = some 3 := by decide +kernel
abbrev b_La_open : ByteArray := method_6_code
def y_La_open : MethodName := ⟨R_La, "open", "(LTextPress;[J)I"⟩
theorem hd_La_open : y_La_open.cls ≠ "java/lang/invoke/MethodHandle" ∧ y_La_open.cls ≠ "java/lang/invoke/VarHandle" ∧ (parseMethodDescriptor y_La_open.desc).map (fun d => d.parameters.length) = some 2 := by decide +kernel
abbrev b_La_turn : ByteArray := method_7_code
def y_La_turn : MethodName := ⟨R_La, "turn", "(LTextPress;[J)I"⟩
theorem hd_La_turn : y_La_turn.cls ≠ "java/lang/invoke/MethodHandle" ∧ y_La_turn.cls ≠ "java/lang/invoke/VarHandle" ∧ (parseMethodDescriptor y_La_turn.desc).map (fun d => d.parameters.length) = some 2 := by decide +kernel
abbrev b_La_hash : ByteArray := method_8_code
def y_La_hash : MethodName := ⟨R_La, "hash", "(LTextPress;I[J)I"⟩
theorem hd_La_hash : y_La_hash.cls ≠ "java/lang/invoke/MethodHandle" ∧ y_La_hash.cls ≠ "java/lang/invoke/VarHandle" ∧ (parseMethodDescriptor y_La_hash.desc).map (fun d => d.parameters.length) = some 3 := by decide +kernel
abbrev b_La_letter : ByteArray := method_9_code
def y_La_letter : MethodName := ⟨R_La, "letter", "(LTextPress;I[J)I"⟩
theorem hd_La_letter : y_La_letter.cls ≠ "java/lang/invoke/MethodHandle" ∧ y_La_letter.cls ≠ "java/lang/invoke/VarHandle" ∧ (parseMethodDescriptor y_La_letter.desc).map (fun d => d.parameters.length) = some 3 := by decide +kernel
abbrev b_La_law : ByteArray := code
def y_La_law : MethodName := ⟨R_La, "law", "([I)Z"⟩
theorem hd_La_law : y_La_law.cls ≠ "java/lang/invoke/MethodHandle" ∧ y_La_law.cls ≠ "java/lang/invoke/VarHandle" ∧ (parseMethodDescriptor y_La_law.desc).map (fun d => d.parameters.length) = some 1 := by decide +kernel
theorem q0 : Cond.methodLink R_TP 3 objectInit ∈ lwG := in_G (List.mem_of_getElem? (i := 64) (by decide +kernel)) rfl
theorem q1 : Cond.instanceMethod objectInit ∈ lwG := in_G (List.mem_of_getElem? (i := 65) (by decide +kernel)) rfl
set_option maxRecDepth 100000 in
theorem q2 : Cond.code objectInit ⟨#[0xb1]⟩ 1 none ∈ lwG := in_G (List.mem_of_getElem? (i := 66) rfl) rfl
theorem q3 : Cond.classLink R_TP 9 R_Row ∈ lwG := in_G (List.mem_of_getElem? (i := 67) (by decide +kernel)) rfl
theorem q4 : Cond.instantiable R_Row 2 ∈ lwG := in_G (List.mem_of_getElem? (i := 68) (by decide +kernel)) rfl
theorem q5 : Cond.initialized R_Row ∈ lwG := in_G (List.mem_of_getElem? (i := 40) (by decide +kernel)) rfl
theorem q6 : Cond.methodLink R_Row 3 objectInit ∈ lwG := in_G (List.mem_of_getElem? (i := 72) (by decide +kernel)) rfl
theorem q7 : Cond.arrayClass .byte ∈ lwG := in_G (List.mem_of_getElem? (i := 80) (by decide +kernel)) rfl
theorem q8 : Cond.fieldLink R_Row 9 "TextPress$Row" "bytes" "[B" ∈ lwG := in_G (List.mem_of_getElem? (i := 73) (by decide +kernel)) rfl
theorem q9 : Cond.fieldLink R_Row 15 "TextPress$Row" "length" "I" ∈ lwG := in_G (List.mem_of_getElem? (i := 74) (by decide +kernel)) rfl
theorem q10 : Cond.methodLink R_TP 11 y_Row_init ∈ lwG := in_G (List.mem_of_getElem? (i := 69) (by decide +kernel)) rfl
theorem q11 : Cond.instanceMethod y_Row_init ∈ lwG := in_G (List.mem_of_getElem? (i := 70) (by decide +kernel)) rfl
set_option maxRecDepth 100000 in
theorem q12 : Cond.code y_Row_init b_Row_init 1 none ∈ lwG := in_G (List.mem_of_getElem? (i := 71) rfl) rfl
theorem q13 : Cond.fieldLink R_TP 12 "TextPress" "input" "LTextPress$Row;" ∈ lwG := in_G (List.mem_of_getElem? (i := 228) (by decide +kernel)) rfl
theorem q14 : Cond.fieldLink R_TP 16 "TextPress" "output" "LTextPress$Row;" ∈ lwG := in_G (List.mem_of_getElem? (i := 229) (by decide +kernel)) rfl
theorem q15 : Cond.fieldLink R_TP 19 "TextPress" "spare" "LTextPress$Row;" ∈ lwG := in_G (List.mem_of_getElem? (i := 230) (by decide +kernel)) rfl
theorem q16 : Cond.classLink R_TP 22 R_Sha ∈ lwG := in_G (List.mem_of_getElem? (i := 81) (by decide +kernel)) rfl
theorem q17 : Cond.instantiable R_Sha 2 ∈ lwG := in_G (List.mem_of_getElem? (i := 82) (by decide +kernel)) rfl
theorem q18 : Cond.initialized R_Sha ∈ lwG := in_G (List.mem_of_getElem? (i := 41) (by decide +kernel)) rfl
theorem q19 : Cond.methodLink R_Sha 1 objectInit ∈ lwG := in_G (List.mem_of_getElem? (i := 86) (by decide +kernel)) rfl
theorem q20 : Cond.arrayClass .int ∈ lwG := in_G (List.mem_of_getElem? (i := 94) (by decide +kernel)) rfl
theorem q21 : Cond.fieldLink R_Sha 7 "TextPress$Sha1" "words" "[I" ∈ lwG := in_G (List.mem_of_getElem? (i := 87) (by decide +kernel)) rfl
theorem q22 : Cond.fieldLink R_Sha 13 "TextPress$Sha1" "state" "[I" ∈ lwG := in_G (List.mem_of_getElem? (i := 88) (by decide +kernel)) rfl
theorem q23 : Cond.methodLink R_TP 24 y_Sha_init ∈ lwG := in_G (List.mem_of_getElem? (i := 83) (by decide +kernel)) rfl
theorem q24 : Cond.instanceMethod y_Sha_init ∈ lwG := in_G (List.mem_of_getElem? (i := 84) (by decide +kernel)) rfl
set_option maxRecDepth 100000 in
theorem q25 : Cond.code y_Sha_init b_Sha_init 1 none ∈ lwG := in_G (List.mem_of_getElem? (i := 85) rfl) rfl
theorem q26 : Cond.fieldLink R_TP 25 "TextPress" "sha1" "LTextPress$Sha1;" ∈ lwG := in_G (List.mem_of_getElem? (i := 231) (by decide +kernel)) rfl
theorem q27 : Cond.classLink R_TP 29 R_Pr ∈ lwG := in_G (List.mem_of_getElem? (i := 95) (by decide +kernel)) rfl
theorem q28 : Cond.instantiable R_Pr 4 ∈ lwG := in_G (List.mem_of_getElem? (i := 96) (by decide +kernel)) rfl
theorem q29 : Cond.initialized R_Pr ∈ lwG := in_G (List.mem_of_getElem? (i := 42) (by decide +kernel)) rfl
theorem q30 : Cond.methodLink R_Pr 3 objectInit ∈ lwG := in_G (List.mem_of_getElem? (i := 100) (by decide +kernel)) rfl
theorem q31 : Cond.classLink R_Pr 9 R_BW ∈ lwG := in_G (List.mem_of_getElem? (i := 101) (by decide +kernel)) rfl
theorem q32 : Cond.instantiable R_BW 3 ∈ lwG := in_G (List.mem_of_getElem? (i := 102) (by decide +kernel)) rfl
theorem q33 : Cond.initialized R_BW ∈ lwG := in_G (List.mem_of_getElem? (i := 43) (by decide +kernel)) rfl
theorem q34 : Cond.methodLink R_BW 1 objectInit ∈ lwG := in_G (List.mem_of_getElem? (i := 106) (by decide +kernel)) rfl
theorem q35 : Cond.classLink R_BW 7 R_Row ∈ lwG := in_G (List.mem_of_getElem? (i := 107) (by decide +kernel)) rfl
theorem q36 : Cond.methodLink R_BW 9 y_Row_init ∈ lwG := in_G (List.mem_of_getElem? (i := 108) (by decide +kernel)) rfl
theorem q37 : Cond.fieldLink R_BW 10 "TextPress$BitWriter" "row" "LTextPress$Row;" ∈ lwG := in_G (List.mem_of_getElem? (i := 109) (by decide +kernel)) rfl
theorem q38 : Cond.fieldLink R_BW 16 "TextPress$BitWriter" "held" "I" ∈ lwG := in_G (List.mem_of_getElem? (i := 110) (by decide +kernel)) rfl
theorem q39 : Cond.fieldLink R_BW 20 "TextPress$BitWriter" "heldBits" "I" ∈ lwG := in_G (List.mem_of_getElem? (i := 111) (by decide +kernel)) rfl
theorem q40 : Cond.methodLink R_Pr 11 y_BW_init ∈ lwG := in_G (List.mem_of_getElem? (i := 103) (by decide +kernel)) rfl
theorem q41 : Cond.instanceMethod y_BW_init ∈ lwG := in_G (List.mem_of_getElem? (i := 104) (by decide +kernel)) rfl
set_option maxRecDepth 100000 in
theorem q42 : Cond.code y_BW_init b_BW_init 1 none ∈ lwG := in_G (List.mem_of_getElem? (i := 105) rfl) rfl
theorem q43 : Cond.fieldLink R_Pr 12 "TextPress$Presser" "bits" "LTextPress$BitWriter;" ∈ lwG := in_G (List.mem_of_getElem? (i := 138) (by decide +kernel)) rfl
theorem q44 : Cond.classLink R_Pr 18 R_Fi ∈ lwG := in_G (List.mem_of_getElem? (i := 119) (by decide +kernel)) rfl
theorem q45 : Cond.instantiable R_Fi 4 ∈ lwG := in_G (List.mem_of_getElem? (i := 120) (by decide +kernel)) rfl
theorem q46 : Cond.initialized R_Fi ∈ lwG := in_G (List.mem_of_getElem? (i := 44) (by decide +kernel)) rfl
theorem q47 : Cond.methodLink R_Fi 3 objectInit ∈ lwG := in_G (List.mem_of_getElem? (i := 124) (by decide +kernel)) rfl
theorem q48 : Cond.fieldLink R_Fi 11 "TextPress$Finder" "newest" "[I" ∈ lwG := in_G (List.mem_of_getElem? (i := 125) (by decide +kernel)) rfl
theorem q49 : Cond.fieldLink R_Fi 15 "TextPress$Finder" "before" "[I" ∈ lwG := in_G (List.mem_of_getElem? (i := 126) (by decide +kernel)) rfl
theorem q50 : Cond.fieldLink R_Fi 18 "TextPress$Finder" "length" "I" ∈ lwG := in_G (List.mem_of_getElem? (i := 127) (by decide +kernel)) rfl
theorem q51 : Cond.fieldLink R_Fi 22 "TextPress$Finder" "distance" "I" ∈ lwG := in_G (List.mem_of_getElem? (i := 128) (by decide +kernel)) rfl
theorem q52 : Cond.methodLink R_Pr 20 y_Fi_init ∈ lwG := in_G (List.mem_of_getElem? (i := 121) (by decide +kernel)) rfl
theorem q53 : Cond.instanceMethod y_Fi_init ∈ lwG := in_G (List.mem_of_getElem? (i := 122) (by decide +kernel)) rfl
set_option maxRecDepth 100000 in
theorem q54 : Cond.code y_Fi_init b_Fi_init 1 none ∈ lwG := in_G (List.mem_of_getElem? (i := 123) rfl) rfl
theorem q55 : Cond.fieldLink R_Pr 21 "TextPress$Presser" "finder" "LTextPress$Finder;" ∈ lwG := in_G (List.mem_of_getElem? (i := 139) (by decide +kernel)) rfl
theorem q56 : Cond.fieldLink R_Pr 25 "TextPress$Presser" "pairs" "I" ∈ lwG := in_G (List.mem_of_getElem? (i := 140) (by decide +kernel)) rfl
theorem q57 : Cond.fieldLink R_Pr 29 "TextPress$Presser" "literals" "I" ∈ lwG := in_G (List.mem_of_getElem? (i := 141) (by decide +kernel)) rfl
theorem q58 : Cond.methodLink R_TP 31 y_Pr_init ∈ lwG := in_G (List.mem_of_getElem? (i := 97) (by decide +kernel)) rfl
theorem q59 : Cond.instanceMethod y_Pr_init ∈ lwG := in_G (List.mem_of_getElem? (i := 98) (by decide +kernel)) rfl
set_option maxRecDepth 100000 in
theorem q60 : Cond.code y_Pr_init b_Pr_init 1 none ∈ lwG := in_G (List.mem_of_getElem? (i := 99) rfl) rfl
theorem q61 : Cond.fieldLink R_TP 32 "TextPress" "presser" "LTextPress$Presser;" ∈ lwG := in_G (List.mem_of_getElem? (i := 232) (by decide +kernel)) rfl
theorem q62 : Cond.classLink R_TP 36 R_Un ∈ lwG := in_G (List.mem_of_getElem? (i := 151) (by decide +kernel)) rfl
theorem q63 : Cond.instantiable R_Un 9 ∈ lwG := in_G (List.mem_of_getElem? (i := 152) (by decide +kernel)) rfl
theorem q64 : Cond.initialized R_Un ∈ lwG := in_G (List.mem_of_getElem? (i := 45) (by decide +kernel)) rfl
theorem q65 : Cond.methodLink R_Un 3 objectInit ∈ lwG := in_G (List.mem_of_getElem? (i := 156) (by decide +kernel)) rfl
theorem q66 : Cond.classLink R_Un 9 R_BR ∈ lwG := in_G (List.mem_of_getElem? (i := 157) (by decide +kernel)) rfl
theorem q67 : Cond.instantiable R_BR 4 ∈ lwG := in_G (List.mem_of_getElem? (i := 158) (by decide +kernel)) rfl
theorem q68 : Cond.initialized R_BR ∈ lwG := in_G (List.mem_of_getElem? (i := 46) (by decide +kernel)) rfl
theorem q69 : Cond.methodLink R_BR 1 objectInit ∈ lwG := in_G (List.mem_of_getElem? (i := 162) (by decide +kernel)) rfl
theorem q70 : Cond.fieldLink R_BR 7 "TextPress$BitReader" "bytes" "[B" ∈ lwG := in_G (List.mem_of_getElem? (i := 163) (by decide +kernel)) rfl
theorem q71 : Cond.fieldLink R_BR 13 "TextPress$BitReader" "bitsInAll" "I" ∈ lwG := in_G (List.mem_of_getElem? (i := 164) (by decide +kernel)) rfl
theorem q72 : Cond.fieldLink R_BR 17 "TextPress$BitReader" "place" "I" ∈ lwG := in_G (List.mem_of_getElem? (i := 165) (by decide +kernel)) rfl
theorem q73 : Cond.fieldLink R_BR 20 "TextPress$BitReader" "ranOut" "Z" ∈ lwG := in_G (List.mem_of_getElem? (i := 166) (by decide +kernel)) rfl
theorem q74 : Cond.methodLink R_Un 11 y_BR_init ∈ lwG := in_G (List.mem_of_getElem? (i := 159) (by decide +kernel)) rfl
theorem q75 : Cond.instanceMethod y_BR_init ∈ lwG := in_G (List.mem_of_getElem? (i := 160) (by decide +kernel)) rfl
set_option maxRecDepth 100000 in
theorem q76 : Cond.code y_BR_init b_BR_init 1 none ∈ lwG := in_G (List.mem_of_getElem? (i := 161) rfl) rfl
theorem q77 : Cond.fieldLink R_Un 12 "TextPress$Unpresser" "bits" "LTextPress$BitReader;" ∈ lwG := in_G (List.mem_of_getElem? (i := 200) (by decide +kernel)) rfl
theorem q78 : Cond.fieldLink R_Un 18 "TextPress$Unpresser" "lengths" "[I" ∈ lwG := in_G (List.mem_of_getElem? (i := 201) (by decide +kernel)) rfl
theorem q79 : Cond.classLink R_Un 22 R_Co ∈ lwG := in_G (List.mem_of_getElem? (i := 176) (by decide +kernel)) rfl
theorem q80 : Cond.instantiable R_Co 3 ∈ lwG := in_G (List.mem_of_getElem? (i := 177) (by decide +kernel)) rfl
theorem q81 : Cond.initialized R_Co ∈ lwG := in_G (List.mem_of_getElem? (i := 47) (by decide +kernel)) rfl
theorem q82 : Cond.methodLink R_Co 1 objectInit ∈ lwG := in_G (List.mem_of_getElem? (i := 181) (by decide +kernel)) rfl
theorem q83 : Cond.fieldLink R_Co 9 "TextPress$Code" "numbers" "[I" ∈ lwG := in_G (List.mem_of_getElem? (i := 182) (by decide +kernel)) rfl
theorem q84 : Cond.fieldLink R_Co 13 "TextPress$Code" "starts" "[I" ∈ lwG := in_G (List.mem_of_getElem? (i := 183) (by decide +kernel)) rfl
theorem q85 : Cond.fieldLink R_Co 16 "TextPress$Code" "symbols" "[I" ∈ lwG := in_G (List.mem_of_getElem? (i := 184) (by decide +kernel)) rfl
theorem q86 : Cond.methodLink R_Un 24 y_Co_init ∈ lwG := in_G (List.mem_of_getElem? (i := 178) (by decide +kernel)) rfl
theorem q87 : Cond.instanceMethod y_Co_init ∈ lwG := in_G (List.mem_of_getElem? (i := 179) (by decide +kernel)) rfl
set_option maxRecDepth 100000 in
theorem q88 : Cond.code y_Co_init b_Co_init 2 none ∈ lwG := in_G (List.mem_of_getElem? (i := 180) rfl) rfl
theorem q89 : Cond.fieldLink R_Un 27 "TextPress$Unpresser" "fixedLetters" "LTextPress$Code;" ∈ lwG := in_G (List.mem_of_getElem? (i := 202) (by decide +kernel)) rfl
theorem q90 : Cond.methodLink R_Co 19 y_JA_fill ∈ lwG := in_G (List.mem_of_getElem? (i := 196) (by decide +kernel)) rfl
theorem q91 : Cond.static y_JA_fill ∈ lwG := in_G (List.mem_of_getElem? (i := 197) (by decide +kernel)) rfl
theorem q92 : Cond.initialized "java/util/Arrays" ∈ lwG := in_G (List.mem_of_getElem? (i := 48) (by decide +kernel)) rfl
set_option maxRecDepth 100000 in
theorem q93 : Cond.code y_JA_fill b_JA_fill 4 none ∈ lwG := in_G (List.mem_of_getElem? (i := 198) rfl) rfl
theorem q94 : Cond.methodLink R_Un 31 y_Co_tell ∈ lwG := in_G (List.mem_of_getElem? (i := 192) (by decide +kernel)) rfl
theorem q95 : Cond.instanceMethod y_Co_tell ∈ lwG := in_G (List.mem_of_getElem? (i := 193) (by decide +kernel)) rfl
theorem q96 : Cond.selects R_Co y_Co_tell y_Co_tell ∈ lwG := in_G (List.mem_of_getElem? (i := 194) (by decide +kernel)) rfl
set_option maxRecDepth 100000 in
theorem q97 : Cond.code y_Co_tell b_Co_tell 6 none ∈ lwG := in_G (List.mem_of_getElem? (i := 195) rfl) rfl
theorem q98 : Cond.fieldLink R_Un 35 "TextPress$Unpresser" "fixedDistances" "LTextPress$Code;" ∈ lwG := in_G (List.mem_of_getElem? (i := 203) (by decide +kernel)) rfl
theorem q99 : Cond.methodLink R_Un 38 y_JA_fill ∈ lwG := in_G (List.mem_of_getElem? (i := 199) (by decide +kernel)) rfl
theorem q100 : Cond.fieldLink R_Un 44 "TextPress$Unpresser" "sizes" "LTextPress$Code;" ∈ lwG := in_G (List.mem_of_getElem? (i := 204) (by decide +kernel)) rfl
theorem q101 : Cond.fieldLink R_Un 47 "TextPress$Unpresser" "letters" "LTextPress$Code;" ∈ lwG := in_G (List.mem_of_getElem? (i := 205) (by decide +kernel)) rfl
theorem q102 : Cond.fieldLink R_Un 50 "TextPress$Unpresser" "distances" "LTextPress$Code;" ∈ lwG := in_G (List.mem_of_getElem? (i := 206) (by decide +kernel)) rfl
theorem q103 : Cond.fieldLink R_Un 53 "TextPress$Unpresser" "blocks" "I" ∈ lwG := in_G (List.mem_of_getElem? (i := 207) (by decide +kernel)) rfl
theorem q104 : Cond.fieldLink R_Un 57 "TextPress$Unpresser" "toldBlocks" "I" ∈ lwG := in_G (List.mem_of_getElem? (i := 208) (by decide +kernel)) rfl
theorem q105 : Cond.methodLink R_TP 38 y_Un_init ∈ lwG := in_G (List.mem_of_getElem? (i := 153) (by decide +kernel)) rfl
theorem q106 : Cond.instanceMethod y_Un_init ∈ lwG := in_G (List.mem_of_getElem? (i := 154) (by decide +kernel)) rfl
set_option maxRecDepth 100000 in
theorem q107 : Cond.code y_Un_init b_Un_init 2 none ∈ lwG := in_G (List.mem_of_getElem? (i := 155) rfl) rfl
theorem q108 : Cond.fieldLink R_TP 39 "TextPress" "unpresser" "LTextPress$Unpresser;" ∈ lwG := in_G (List.mem_of_getElem? (i := 233) (by decide +kernel)) rfl
theorem q109 : Cond.methodLink R_TP 43 y_Row_length ∈ lwG := in_G (List.mem_of_getElem? (i := 392) (by decide +kernel)) rfl
theorem q110 : Cond.instanceMethod y_Row_length ∈ lwG := in_G (List.mem_of_getElem? (i := 265) (by decide +kernel)) rfl
theorem q111 : Cond.selects R_Row y_Row_length y_Row_length ∈ lwG := in_G (List.mem_of_getElem? (i := 266) (by decide +kernel)) rfl
set_option maxRecDepth 100000 in
theorem q112 : Cond.code y_Row_length b_Row_length 1 (some .int) ∈ lwG := in_G (List.mem_of_getElem? (i := 267) rfl) rfl
theorem q113 : Cond.constant R_TP 47 65536 ∈ lwG := in_G (List.mem_of_getElem? (i := 413) (by decide +kernel)) rfl
theorem q114 : Cond.constant R_Row 37 73736 ∈ lwG := in_G (List.mem_of_getElem? (i := 288) (by decide +kernel)) rfl
theorem q115 : Cond.methodLink R_Row 38 Lib.Math.min.name ∈ lwG := in_G (List.mem_of_getElem? (i := 289) (by decide +kernel)) rfl
theorem q116 : Cond.static Lib.Math.min.name ∈ lwG := in_G (List.mem_of_getElem? (i := 290) (by decide +kernel)) rfl
theorem q117 : Cond.initialized "java/lang/Math" ∈ lwG := in_G (List.mem_of_getElem? (i := 54) (by decide +kernel)) rfl
set_option maxRecDepth 100000 in
theorem q118 : Cond.code Lib.Math.min.name Lib.Math.min.code 2 (some .int) ∈ lwG := in_G (List.mem_of_getElem? (i := 291) rfl) rfl
theorem q119 : Cond.methodLink R_Row 44 Lib.Math.max.name ∈ lwG := in_G (List.mem_of_getElem? (i := 292) (by decide +kernel)) rfl
theorem q120 : Cond.static Lib.Math.max.name ∈ lwG := in_G (List.mem_of_getElem? (i := 293) (by decide +kernel)) rfl
set_option maxRecDepth 100000 in
theorem q121 : Cond.code Lib.Math.max.name Lib.Math.max.code 2 (some .int) ∈ lwG := in_G (List.mem_of_getElem? (i := 294) rfl) rfl
theorem q122 : Cond.methodLink "java/util/Arrays" 304 Lib.Math.min.name ∈ lwG := in_G (List.mem_of_getElem? (i := 305) (by decide +kernel)) rfl
theorem q123 : Cond.methodLink "java/util/Arrays" 150 arraycopyName ∈ lwG := in_G (List.mem_of_getElem? (i := 306) (by decide +kernel)) rfl
theorem q124 : Cond.native arraycopyName ∈ lwG := in_G (List.mem_of_getElem? (i := 308) (by decide +kernel)) rfl
theorem q125 : Cond.static arraycopyName ∈ lwG := in_G (List.mem_of_getElem? (i := 307) (by decide +kernel)) rfl
theorem q126 : Cond.initialized "java/lang/System" ∈ lwG := in_G (List.mem_of_getElem? (i := 55) (by decide +kernel)) rfl
theorem q127 : Cond.methodLink R_Row 47 y_JA_copyOf ∈ lwG := in_G (List.mem_of_getElem? (i := 295) (by decide +kernel)) rfl
theorem q128 : Cond.static y_JA_copyOf ∈ lwG := in_G (List.mem_of_getElem? (i := 296) (by decide +kernel)) rfl
set_option maxRecDepth 100000 in
theorem q129 : Cond.code y_JA_copyOf b_JA_copyOf 3 (some (.array .byte)) ∈ lwG := in_G (List.mem_of_getElem? (i := 297) rfl) rfl
theorem q130 : Cond.methodLink R_Row 23 y_Row_makeRoom ∈ lwG := in_G (List.mem_of_getElem? (i := 284) (by decide +kernel)) rfl
theorem q131 : Cond.instanceMethod y_Row_makeRoom ∈ lwG := in_G (List.mem_of_getElem? (i := 286) (by decide +kernel)) rfl
theorem q132 : Cond.selects R_Row y_Row_makeRoom y_Row_makeRoom ∈ lwG := in_G (List.mem_of_getElem? (i := 1) (by decide +kernel)) rfl
set_option maxRecDepth 100000 in
theorem q133 : Cond.code y_Row_makeRoom b_Row_makeRoom 3 none ∈ lwG := in_G (List.mem_of_getElem? (i := 287) rfl) rfl
theorem q134 : Cond.methodLink R_Row 27 y_Row_add ∈ lwG := in_G (List.mem_of_getElem? (i := 391) (by decide +kernel)) rfl
theorem q135 : Cond.instanceMethod y_Row_add ∈ lwG := in_G (List.mem_of_getElem? (i := 281) (by decide +kernel)) rfl
theorem q136 : Cond.selects R_Row y_Row_add y_Row_add ∈ lwG := in_G (List.mem_of_getElem? (i := 282) (by decide +kernel)) rfl
set_option maxRecDepth 100000 in
theorem q137 : Cond.code y_Row_add b_Row_add 2 none ∈ lwG := in_G (List.mem_of_getElem? (i := 283) rfl) rfl
theorem q138 : Cond.methodLink R_TP 55 y_Row_addNumber ∈ lwG := in_G (List.mem_of_getElem? (i := 482) (by decide +kernel)) rfl
theorem q139 : Cond.instanceMethod y_Row_addNumber ∈ lwG := in_G (List.mem_of_getElem? (i := 388) (by decide +kernel)) rfl
theorem q140 : Cond.selects R_Row y_Row_addNumber y_Row_addNumber ∈ lwG := in_G (List.mem_of_getElem? (i := 389) (by decide +kernel)) rfl
set_option maxRecDepth 100000 in
theorem q141 : Cond.code y_Row_addNumber b_Row_addNumber 2 none ∈ lwG := in_G (List.mem_of_getElem? (i := 390) rfl) rfl
theorem q142 : Cond.classLink R_TP 48 "java/lang/IllegalStateException" ∈ lwG := in_G (List.mem_of_getElem? (i := 414) (by decide +kernel)) rfl
theorem q143 : Cond.instantiable "java/lang/IllegalStateException" 6 ∈ lwG := in_G (List.mem_of_getElem? (i := 415) (by decide +kernel)) rfl
theorem q144 : Cond.initialized "java/lang/IllegalStateException" ∈ lwG := in_G (List.mem_of_getElem? (i := 53) (by decide +kernel)) rfl
theorem q145 : Cond.stringRef R_TP 50 "INPUT would be too long" ∈ lwG := in_G (List.mem_of_getElem? (i := 456) (by decide +kernel)) rfl
theorem q146 : Cond.methodLink R_TP 64 y_Row_shorten ∈ lwG := in_G (List.mem_of_getElem? (i := 507) (by decide +kernel)) rfl
theorem q147 : Cond.instanceMethod y_Row_shorten ∈ lwG := in_G (List.mem_of_getElem? (i := 277) (by decide +kernel)) rfl
theorem q148 : Cond.selects R_Row y_Row_shorten y_Row_shorten ∈ lwG := in_G (List.mem_of_getElem? (i := 278) (by decide +kernel)) rfl
set_option maxRecDepth 100000 in
theorem q149 : Cond.code y_Row_shorten b_Row_shorten 2 none ∈ lwG := in_G (List.mem_of_getElem? (i := 279) rfl) rfl
theorem q150 : Cond.classLink R_TP 59 "java/lang/IllegalArgumentException" ∈ lwG := in_G (List.mem_of_getElem? (i := 491) (by decide +kernel)) rfl
theorem q151 : Cond.instantiable "java/lang/IllegalArgumentException" 6 ∈ lwG := in_G (List.mem_of_getElem? (i := 492) (by decide +kernel)) rfl
theorem q152 : Cond.initialized "java/lang/IllegalArgumentException" ∈ lwG := in_G (List.mem_of_getElem? (i := 56) (by decide +kernel)) rfl
theorem q153 : Cond.stringRef R_TP 61 "INPUT has not so many BYTES" ∈ lwG := in_G (List.mem_of_getElem? (i := 500) (by decide +kernel)) rfl
theorem q154 : Cond.methodLink R_TP 67 y_Row_has ∈ lwG := in_G (List.mem_of_getElem? (i := 515) (by decide +kernel)) rfl
theorem q155 : Cond.instanceMethod y_Row_has ∈ lwG := in_G (List.mem_of_getElem? (i := 516) (by decide +kernel)) rfl
theorem q156 : Cond.selects R_Row y_Row_has y_Row_has ∈ lwG := in_G (List.mem_of_getElem? (i := 517) (by decide +kernel)) rfl
set_option maxRecDepth 100000 in
theorem q157 : Cond.code y_Row_has b_Row_has 2 (some .boolean) ∈ lwG := in_G (List.mem_of_getElem? (i := 518) rfl) rfl
theorem q158 : Cond.methodLink R_Row 19 y_Row_has ∈ lwG := in_G (List.mem_of_getElem? (i := 524) (by decide +kernel)) rfl
theorem q159 : Cond.methodLink R_TP 73 y_Row_at ∈ lwG := in_G (List.mem_of_getElem? (i := 520) (by decide +kernel)) rfl
theorem q160 : Cond.instanceMethod y_Row_at ∈ lwG := in_G (List.mem_of_getElem? (i := 521) (by decide +kernel)) rfl
theorem q161 : Cond.selects R_Row y_Row_at y_Row_at ∈ lwG := in_G (List.mem_of_getElem? (i := 522) (by decide +kernel)) rfl
set_option maxRecDepth 100000 in
theorem q162 : Cond.code y_Row_at b_Row_at 2 (some .int) ∈ lwG := in_G (List.mem_of_getElem? (i := 523) rfl) rfl
theorem q163 : Cond.methodLink R_TP 77 y_Row_put ∈ lwG := in_G (List.mem_of_getElem? (i := 525) (by decide +kernel)) rfl
theorem q164 : Cond.instanceMethod y_Row_put ∈ lwG := in_G (List.mem_of_getElem? (i := 526) (by decide +kernel)) rfl
theorem q165 : Cond.selects R_Row y_Row_put y_Row_put ∈ lwG := in_G (List.mem_of_getElem? (i := 527) (by decide +kernel)) rfl
set_option maxRecDepth 100000 in
theorem q166 : Cond.code y_Row_put b_Row_put 3 none ∈ lwG := in_G (List.mem_of_getElem? (i := 528) rfl) rfl
theorem q167 : Cond.stringRef R_TP 71 "no such place in INPUT, or no BYTE" ∈ lwG := in_G (List.mem_of_getElem? (i := 519) (by decide +kernel)) rfl
theorem q168 : Cond.methodLink R_Pr 32 y_Row_length ∈ lwG := in_G (List.mem_of_getElem? (i := 264) (by decide +kernel)) rfl
theorem q169 : Cond.methodLink R_Pr 38 y_Row_bytes ∈ lwG := in_G (List.mem_of_getElem? (i := 268) (by decide +kernel)) rfl
theorem q170 : Cond.instanceMethod y_Row_bytes ∈ lwG := in_G (List.mem_of_getElem? (i := 269) (by decide +kernel)) rfl
theorem q171 : Cond.selects R_Row y_Row_bytes y_Row_bytes ∈ lwG := in_G (List.mem_of_getElem? (i := 270) (by decide +kernel)) rfl
set_option maxRecDepth 100000 in
theorem q172 : Cond.code y_Row_bytes b_Row_bytes 1 (some (.array .byte)) ∈ lwG := in_G (List.mem_of_getElem? (i := 271) rfl) rfl
theorem q173 : Cond.methodLink R_Pr 84 y_Row_shorten ∈ lwG := in_G (List.mem_of_getElem? (i := 276) (by decide +kernel)) rfl
theorem q174 : Cond.methodLink R_Pr 87 y_Row_add ∈ lwG := in_G (List.mem_of_getElem? (i := 280) (by decide +kernel)) rfl
theorem q175 : Cond.methodLink R_Pr 90 y_BW_start ∈ lwG := in_G (List.mem_of_getElem? (i := 309) (by decide +kernel)) rfl
theorem q176 : Cond.instanceMethod y_BW_start ∈ lwG := in_G (List.mem_of_getElem? (i := 310) (by decide +kernel)) rfl
theorem q177 : Cond.selects R_BW y_BW_start y_BW_start ∈ lwG := in_G (List.mem_of_getElem? (i := 311) (by decide +kernel)) rfl
set_option maxRecDepth 100000 in
theorem q178 : Cond.code y_BW_start b_BW_start 2 none ∈ lwG := in_G (List.mem_of_getElem? (i := 312) rfl) rfl
theorem q179 : Cond.methodLink R_BW 23 y_Row_add ∈ lwG := in_G (List.mem_of_getElem? (i := 317) (by decide +kernel)) rfl
theorem q180 : Cond.methodLink R_Pr 92 y_BW_put ∈ lwG := in_G (List.mem_of_getElem? (i := 313) (by decide +kernel)) rfl
theorem q181 : Cond.instanceMethod y_BW_put ∈ lwG := in_G (List.mem_of_getElem? (i := 314) (by decide +kernel)) rfl
theorem q182 : Cond.selects R_BW y_BW_put y_BW_put ∈ lwG := in_G (List.mem_of_getElem? (i := 315) (by decide +kernel)) rfl
set_option maxRecDepth 100000 in
theorem q183 : Cond.code y_BW_put b_BW_put 3 none ∈ lwG := in_G (List.mem_of_getElem? (i := 316) rfl) rfl
theorem q184 : Cond.methodLink R_Pr 42 y_Pr_startForm ∈ lwG := in_G (List.mem_of_getElem? (i := 272) (by decide +kernel)) rfl
theorem q185 : Cond.instanceMethod y_Pr_startForm ∈ lwG := in_G (List.mem_of_getElem? (i := 274) (by decide +kernel)) rfl
theorem q186 : Cond.selects R_Pr y_Pr_startForm y_Pr_startForm ∈ lwG := in_G (List.mem_of_getElem? (i := 0) (by decide +kernel)) rfl
set_option maxRecDepth 100000 in
theorem q187 : Cond.code y_Pr_startForm b_Pr_startForm 2 none ∈ lwG := in_G (List.mem_of_getElem? (i := 275) rfl) rfl
theorem q188 : Cond.methodLink R_Fi 25 y_JA_fill ∈ lwG := in_G (List.mem_of_getElem? (i := 322) (by decide +kernel)) rfl
theorem q189 : Cond.constant R_Fi 31 65536 ∈ lwG := in_G (List.mem_of_getElem? (i := 323) (by decide +kernel)) rfl
theorem q190 : Cond.methodLink R_Fi 32 Lib.Math.min.name ∈ lwG := in_G (List.mem_of_getElem? (i := 324) (by decide +kernel)) rfl
theorem q191 : Cond.methodLink R_Fi 38 Lib.Math.max.name ∈ lwG := in_G (List.mem_of_getElem? (i := 325) (by decide +kernel)) rfl
theorem q192 : Cond.methodLink R_Pr 46 y_Fi_start ∈ lwG := in_G (List.mem_of_getElem? (i := 318) (by decide +kernel)) rfl
theorem q193 : Cond.instanceMethod y_Fi_start ∈ lwG := in_G (List.mem_of_getElem? (i := 319) (by decide +kernel)) rfl
theorem q194 : Cond.selects R_Fi y_Fi_start y_Fi_start ∈ lwG := in_G (List.mem_of_getElem? (i := 320) (by decide +kernel)) rfl
set_option maxRecDepth 100000 in
theorem q195 : Cond.code y_Fi_start b_Fi_start 2 none ∈ lwG := in_G (List.mem_of_getElem? (i := 321) rfl) rfl
theorem q196 : Cond.constant R_Fi 41 32768 ∈ lwG := in_G (List.mem_of_getElem? (i := 330) (by decide +kernel)) rfl
theorem q197 : Cond.constant R_Fi 54 (-1640531535) ∈ lwG := in_G (List.mem_of_getElem? (i := 334) (by decide +kernel)) rfl
theorem q198 : Cond.methodLink R_Fi 42 y_Fi_slot ∈ lwG := in_G (List.mem_of_getElem? (i := 331) (by decide +kernel)) rfl
theorem q199 : Cond.static y_Fi_slot ∈ lwG := in_G (List.mem_of_getElem? (i := 332) (by decide +kernel)) rfl
set_option maxRecDepth 100000 in
theorem q200 : Cond.code y_Fi_slot b_Fi_slot 3 (some .int) ∈ lwG := in_G (List.mem_of_getElem? (i := 333) rfl) rfl
theorem q201 : Cond.methodLink R_Fi 46 y_Fi_sameBytes ∈ lwG := in_G (List.mem_of_getElem? (i := 335) (by decide +kernel)) rfl
theorem q202 : Cond.static y_Fi_sameBytes ∈ lwG := in_G (List.mem_of_getElem? (i := 336) (by decide +kernel)) rfl
set_option maxRecDepth 100000 in
theorem q203 : Cond.code y_Fi_sameBytes b_Fi_sameBytes 5 (some .int) ∈ lwG := in_G (List.mem_of_getElem? (i := 337) rfl) rfl
theorem q204 : Cond.methodLink R_Fi 50 y_Fi_better ∈ lwG := in_G (List.mem_of_getElem? (i := 338) (by decide +kernel)) rfl
theorem q205 : Cond.instanceMethod y_Fi_better ∈ lwG := in_G (List.mem_of_getElem? (i := 340) (by decide +kernel)) rfl
theorem q206 : Cond.selects R_Fi y_Fi_better y_Fi_better ∈ lwG := in_G (List.mem_of_getElem? (i := 2) (by decide +kernel)) rfl
set_option maxRecDepth 100000 in
theorem q207 : Cond.code y_Fi_better b_Fi_better 3 none ∈ lwG := in_G (List.mem_of_getElem? (i := 341) rfl) rfl
theorem q208 : Cond.methodLink R_Pr 50 y_Fi_find ∈ lwG := in_G (List.mem_of_getElem? (i := 326) (by decide +kernel)) rfl
theorem q209 : Cond.instanceMethod y_Fi_find ∈ lwG := in_G (List.mem_of_getElem? (i := 327) (by decide +kernel)) rfl
theorem q210 : Cond.selects R_Fi y_Fi_find y_Fi_find ∈ lwG := in_G (List.mem_of_getElem? (i := 328) (by decide +kernel)) rfl
set_option maxRecDepth 100000 in
theorem q211 : Cond.code y_Fi_find b_Fi_find 8 none ∈ lwG := in_G (List.mem_of_getElem? (i := 329) rfl) rfl
theorem q212 : Cond.methodLink R_Pr 54 y_Fi_length ∈ lwG := in_G (List.mem_of_getElem? (i := 342) (by decide +kernel)) rfl
theorem q213 : Cond.instanceMethod y_Fi_length ∈ lwG := in_G (List.mem_of_getElem? (i := 343) (by decide +kernel)) rfl
theorem q214 : Cond.selects R_Fi y_Fi_length y_Fi_length ∈ lwG := in_G (List.mem_of_getElem? (i := 344) (by decide +kernel)) rfl
set_option maxRecDepth 100000 in
theorem q215 : Cond.code y_Fi_length b_Fi_length 1 (some .int) ∈ lwG := in_G (List.mem_of_getElem? (i := 345) rfl) rfl
theorem q216 : Cond.methodLink R_Pr 58 y_Fi_distance ∈ lwG := in_G (List.mem_of_getElem? (i := 353) (by decide +kernel)) rfl
theorem q217 : Cond.instanceMethod y_Fi_distance ∈ lwG := in_G (List.mem_of_getElem? (i := 354) (by decide +kernel)) rfl
theorem q218 : Cond.selects R_Fi y_Fi_distance y_Fi_distance ∈ lwG := in_G (List.mem_of_getElem? (i := 355) (by decide +kernel)) rfl
set_option maxRecDepth 100000 in
theorem q219 : Cond.code y_Fi_distance b_Fi_distance 1 (some .int) ∈ lwG := in_G (List.mem_of_getElem? (i := 356) rfl) rfl
theorem q220 : Cond.fieldLinkNest R_Pr 95 "TextPress" "LENGTH_BASE" "[I" "TextPress" ∈ lwG := in_G (List.mem_of_getElem? (i := 361) (by decide +kernel)) rfl
theorem q221 : Cond.methodLink R_Pr 99 y_Pr_codeOf ∈ lwG := in_G (List.mem_of_getElem? (i := 363) (by decide +kernel)) rfl
theorem q222 : Cond.static y_Pr_codeOf ∈ lwG := in_G (List.mem_of_getElem? (i := 364) (by decide +kernel)) rfl
set_option maxRecDepth 100000 in
theorem q223 : Cond.code y_Pr_codeOf b_Pr_codeOf 4 (some .int) ∈ lwG := in_G (List.mem_of_getElem? (i := 365) rfl) rfl
theorem q224 : Cond.methodLink R_Pr 109 y_Pr_reversed ∈ lwG := in_G (List.mem_of_getElem? (i := 350) (by decide +kernel)) rfl
theorem q225 : Cond.static y_Pr_reversed ∈ lwG := in_G (List.mem_of_getElem? (i := 351) (by decide +kernel)) rfl
set_option maxRecDepth 100000 in
theorem q226 : Cond.code y_Pr_reversed b_Pr_reversed 4 (some .int) ∈ lwG := in_G (List.mem_of_getElem? (i := 352) rfl) rfl
theorem q227 : Cond.methodLink R_Pr 55 y_Pr_putSymbol ∈ lwG := in_G (List.mem_of_getElem? (i := 346) (by decide +kernel)) rfl
theorem q228 : Cond.instanceMethod y_Pr_putSymbol ∈ lwG := in_G (List.mem_of_getElem? (i := 348) (by decide +kernel)) rfl
theorem q229 : Cond.selects R_Pr y_Pr_putSymbol y_Pr_putSymbol ∈ lwG := in_G (List.mem_of_getElem? (i := 3) (by decide +kernel)) rfl
set_option maxRecDepth 100000 in
theorem q230 : Cond.code y_Pr_putSymbol b_Pr_putSymbol 2 none ∈ lwG := in_G (List.mem_of_getElem? (i := 349) rfl) rfl
theorem q231 : Cond.fieldLinkNest R_Pr 103 "TextPress" "LENGTH_EXTRA" "[I" "TextPress" ∈ lwG := in_G (List.mem_of_getElem? (i := 366) (by decide +kernel)) rfl
theorem q232 : Cond.fieldLinkNest R_Pr 106 "TextPress" "DISTANCE_BASE" "[I" "TextPress" ∈ lwG := in_G (List.mem_of_getElem? (i := 368) (by decide +kernel)) rfl
theorem q233 : Cond.fieldLinkNest R_Pr 112 "TextPress" "DISTANCE_EXTRA" "[I" "TextPress" ∈ lwG := in_G (List.mem_of_getElem? (i := 370) (by decide +kernel)) rfl
theorem q234 : Cond.methodLink R_Pr 61 y_Pr_putPair ∈ lwG := in_G (List.mem_of_getElem? (i := 357) (by decide +kernel)) rfl
theorem q235 : Cond.instanceMethod y_Pr_putPair ∈ lwG := in_G (List.mem_of_getElem? (i := 359) (by decide +kernel)) rfl
theorem q236 : Cond.selects R_Pr y_Pr_putPair y_Pr_putPair ∈ lwG := in_G (List.mem_of_getElem? (i := 4) (by decide +kernel)) rfl
set_option maxRecDepth 100000 in
theorem q237 : Cond.code y_Pr_putPair b_Pr_putPair 5 none ∈ lwG := in_G (List.mem_of_getElem? (i := 360) rfl) rfl
theorem q238 : Cond.methodLink R_Pr 65 Lib.Math.max.name ∈ lwG := in_G (List.mem_of_getElem? (i := 372) (by decide +kernel)) rfl
theorem q239 : Cond.methodLink R_Pr 71 y_Fi_note ∈ lwG := in_G (List.mem_of_getElem? (i := 373) (by decide +kernel)) rfl
theorem q240 : Cond.instanceMethod y_Fi_note ∈ lwG := in_G (List.mem_of_getElem? (i := 374) (by decide +kernel)) rfl
theorem q241 : Cond.selects R_Fi y_Fi_note y_Fi_note ∈ lwG := in_G (List.mem_of_getElem? (i := 375) (by decide +kernel)) rfl
set_option maxRecDepth 100000 in
theorem q242 : Cond.code y_Fi_note b_Fi_note 8 none ∈ lwG := in_G (List.mem_of_getElem? (i := 376) rfl) rfl
theorem q243 : Cond.methodLink R_BW 27 y_BW_put ∈ lwG := in_G (List.mem_of_getElem? (i := 381) (by decide +kernel)) rfl
theorem q244 : Cond.methodLink R_Pr 75 y_BW_fillByte ∈ lwG := in_G (List.mem_of_getElem? (i := 377) (by decide +kernel)) rfl
theorem q245 : Cond.instanceMethod y_BW_fillByte ∈ lwG := in_G (List.mem_of_getElem? (i := 378) (by decide +kernel)) rfl
theorem q246 : Cond.selects R_BW y_BW_fillByte y_BW_fillByte ∈ lwG := in_G (List.mem_of_getElem? (i := 379) (by decide +kernel)) rfl
set_option maxRecDepth 100000 in
theorem q247 : Cond.code y_BW_fillByte b_BW_fillByte 1 none ∈ lwG := in_G (List.mem_of_getElem? (i := 380) rfl) rfl
theorem q248 : Cond.constant R_Row 36 65521 ∈ lwG := in_G (List.mem_of_getElem? (i := 386) (by decide +kernel)) rfl
theorem q249 : Cond.methodLink R_Pr 78 y_Row_adler32 ∈ lwG := in_G (List.mem_of_getElem? (i := 382) (by decide +kernel)) rfl
theorem q250 : Cond.instanceMethod y_Row_adler32 ∈ lwG := in_G (List.mem_of_getElem? (i := 383) (by decide +kernel)) rfl
theorem q251 : Cond.selects R_Row y_Row_adler32 y_Row_adler32 ∈ lwG := in_G (List.mem_of_getElem? (i := 384) (by decide +kernel)) rfl
set_option maxRecDepth 100000 in
theorem q252 : Cond.code y_Row_adler32 b_Row_adler32 4 (some .int) ∈ lwG := in_G (List.mem_of_getElem? (i := 385) rfl) rfl
theorem q253 : Cond.methodLink R_Pr 81 y_Row_addNumber ∈ lwG := in_G (List.mem_of_getElem? (i := 387) (by decide +kernel)) rfl
theorem q254 : Cond.methodLink R_TP 81 y_Pr_run ∈ lwG := in_G (List.mem_of_getElem? (i := 260) (by decide +kernel)) rfl
theorem q255 : Cond.instanceMethod y_Pr_run ∈ lwG := in_G (List.mem_of_getElem? (i := 261) (by decide +kernel)) rfl
theorem q256 : Cond.selects R_Pr y_Pr_run y_Pr_run ∈ lwG := in_G (List.mem_of_getElem? (i := 262) (by decide +kernel)) rfl
set_option maxRecDepth 100000 in
theorem q257 : Cond.code y_Pr_run b_Pr_run 7 none ∈ lwG := in_G (List.mem_of_getElem? (i := 263) rfl) rfl
theorem q258 : Cond.methodLink R_BR 24 y_Row_bytes ∈ lwG := in_G (List.mem_of_getElem? (i := 545) (by decide +kernel)) rfl
theorem q259 : Cond.methodLink R_BR 29 y_Row_length ∈ lwG := in_G (List.mem_of_getElem? (i := 546) (by decide +kernel)) rfl
theorem q260 : Cond.methodLink R_Un 60 y_BR_start ∈ lwG := in_G (List.mem_of_getElem? (i := 541) (by decide +kernel)) rfl
theorem q261 : Cond.instanceMethod y_BR_start ∈ lwG := in_G (List.mem_of_getElem? (i := 542) (by decide +kernel)) rfl
theorem q262 : Cond.selects R_BR y_BR_start y_BR_start ∈ lwG := in_G (List.mem_of_getElem? (i := 543) (by decide +kernel)) rfl
set_option maxRecDepth 100000 in
theorem q263 : Cond.code y_BR_start b_BR_start 2 none ∈ lwG := in_G (List.mem_of_getElem? (i := 544) rfl) rfl
theorem q264 : Cond.methodLink R_Un 64 y_Row_shorten ∈ lwG := in_G (List.mem_of_getElem? (i := 547) (by decide +kernel)) rfl
theorem q265 : Cond.methodLink R_Un 74 y_BR_take ∈ lwG := in_G (List.mem_of_getElem? (i := 552) (by decide +kernel)) rfl
theorem q266 : Cond.instanceMethod y_BR_take ∈ lwG := in_G (List.mem_of_getElem? (i := 553) (by decide +kernel)) rfl
theorem q267 : Cond.selects R_BR y_BR_take y_BR_take ∈ lwG := in_G (List.mem_of_getElem? (i := 554) (by decide +kernel)) rfl
set_option maxRecDepth 100000 in
theorem q268 : Cond.code y_BR_take b_BR_take 4 (some .int) ∈ lwG := in_G (List.mem_of_getElem? (i := 555) rfl) rfl
theorem q269 : Cond.methodLink R_Un 69 y_Un_headIsRight ∈ lwG := in_G (List.mem_of_getElem? (i := 548) (by decide +kernel)) rfl
theorem q270 : Cond.instanceMethod y_Un_headIsRight ∈ lwG := in_G (List.mem_of_getElem? (i := 550) (by decide +kernel)) rfl
theorem q271 : Cond.selects R_Un y_Un_headIsRight y_Un_headIsRight ∈ lwG := in_G (List.mem_of_getElem? (i := 6) (by decide +kernel)) rfl
set_option maxRecDepth 100000 in
theorem q272 : Cond.code y_Un_headIsRight b_Un_headIsRight 5 (some .boolean) ∈ lwG := in_G (List.mem_of_getElem? (i := 551) rfl) rfl
theorem q273 : Cond.constant R_Un 73 524288 ∈ lwG := in_G (List.mem_of_getElem? (i := 556) (by decide +kernel)) rfl
theorem q274 : Cond.methodLink R_Un 85 y_BR_skipToByte ∈ lwG := in_G (List.mem_of_getElem? (i := 565) (by decide +kernel)) rfl
theorem q275 : Cond.instanceMethod y_BR_skipToByte ∈ lwG := in_G (List.mem_of_getElem? (i := 566) (by decide +kernel)) rfl
theorem q276 : Cond.selects R_BR y_BR_skipToByte y_BR_skipToByte ∈ lwG := in_G (List.mem_of_getElem? (i := 567) (by decide +kernel)) rfl
set_option maxRecDepth 100000 in
theorem q277 : Cond.code y_BR_skipToByte b_BR_skipToByte 1 none ∈ lwG := in_G (List.mem_of_getElem? (i := 568) rfl) rfl
theorem q278 : Cond.constant R_Un 109 65535 ∈ lwG := in_G (List.mem_of_getElem? (i := 569) (by decide +kernel)) rfl
theorem q279 : Cond.methodLink R_Un 110 y_Row_length ∈ lwG := in_G (List.mem_of_getElem? (i := 570) (by decide +kernel)) rfl
theorem q280 : Cond.constant R_Un 113 65536 ∈ lwG := in_G (List.mem_of_getElem? (i := 571) (by decide +kernel)) rfl
theorem q281 : Cond.methodLink R_Un 82 y_BR_ranOut ∈ lwG := in_G (List.mem_of_getElem? (i := 572) (by decide +kernel)) rfl
theorem q282 : Cond.instanceMethod y_BR_ranOut ∈ lwG := in_G (List.mem_of_getElem? (i := 573) (by decide +kernel)) rfl
theorem q283 : Cond.selects R_BR y_BR_ranOut y_BR_ranOut ∈ lwG := in_G (List.mem_of_getElem? (i := 574) (by decide +kernel)) rfl
set_option maxRecDepth 100000 in
theorem q284 : Cond.code y_BR_ranOut b_BR_ranOut 1 (some .boolean) ∈ lwG := in_G (List.mem_of_getElem? (i := 575) rfl) rfl
theorem q285 : Cond.methodLink R_Un 114 y_Row_add ∈ lwG := in_G (List.mem_of_getElem? (i := 576) (by decide +kernel)) rfl
theorem q286 : Cond.methodLink R_Un 98 y_Un_readStored ∈ lwG := in_G (List.mem_of_getElem? (i := 561) (by decide +kernel)) rfl
theorem q287 : Cond.instanceMethod y_Un_readStored ∈ lwG := in_G (List.mem_of_getElem? (i := 563) (by decide +kernel)) rfl
theorem q288 : Cond.selects R_Un y_Un_readStored y_Un_readStored ∈ lwG := in_G (List.mem_of_getElem? (i := 8) (by decide +kernel)) rfl
set_option maxRecDepth 100000 in
theorem q289 : Cond.code y_Un_readStored b_Un_readStored 5 (some .boolean) ∈ lwG := in_G (List.mem_of_getElem? (i := 564) rfl) rfl
theorem q290 : Cond.methodLink R_Co 26 y_BR_take ∈ lwG := in_G (List.mem_of_getElem? (i := 585) (by decide +kernel)) rfl
theorem q291 : Cond.methodLink R_Un 117 y_Co_next ∈ lwG := in_G (List.mem_of_getElem? (i := 581) (by decide +kernel)) rfl
theorem q292 : Cond.instanceMethod y_Co_next ∈ lwG := in_G (List.mem_of_getElem? (i := 582) (by decide +kernel)) rfl
theorem q293 : Cond.selects R_Co y_Co_next y_Co_next ∈ lwG := in_G (List.mem_of_getElem? (i := 583) (by decide +kernel)) rfl
set_option maxRecDepth 100000 in
theorem q294 : Cond.code y_Co_next b_Co_next 7 (some .int) ∈ lwG := in_G (List.mem_of_getElem? (i := 584) rfl) rfl
theorem q295 : Cond.fieldLinkNest R_Un 125 "TextPress" "LENGTH_BASE" "[I" "TextPress" ∈ lwG := in_G (List.mem_of_getElem? (i := 590) (by decide +kernel)) rfl
theorem q296 : Cond.fieldLinkNest R_Un 128 "TextPress" "LENGTH_EXTRA" "[I" "TextPress" ∈ lwG := in_G (List.mem_of_getElem? (i := 591) (by decide +kernel)) rfl
theorem q297 : Cond.fieldLinkNest R_Un 131 "TextPress" "DISTANCE_BASE" "[I" "TextPress" ∈ lwG := in_G (List.mem_of_getElem? (i := 592) (by decide +kernel)) rfl
theorem q298 : Cond.fieldLinkNest R_Un 134 "TextPress" "DISTANCE_EXTRA" "[I" "TextPress" ∈ lwG := in_G (List.mem_of_getElem? (i := 593) (by decide +kernel)) rfl
theorem q299 : Cond.methodLink R_Un 137 y_Row_at ∈ lwG := in_G (List.mem_of_getElem? (i := 594) (by decide +kernel)) rfl
theorem q300 : Cond.methodLink R_Un 121 y_Un_readPair ∈ lwG := in_G (List.mem_of_getElem? (i := 586) (by decide +kernel)) rfl
theorem q301 : Cond.instanceMethod y_Un_readPair ∈ lwG := in_G (List.mem_of_getElem? (i := 588) (by decide +kernel)) rfl
theorem q302 : Cond.selects R_Un y_Un_readPair y_Un_readPair ∈ lwG := in_G (List.mem_of_getElem? (i := 10) (by decide +kernel)) rfl
set_option maxRecDepth 100000 in
theorem q303 : Cond.code y_Un_readPair b_Un_readPair 8 (some .boolean) ∈ lwG := in_G (List.mem_of_getElem? (i := 589) rfl) rfl
theorem q304 : Cond.methodLink R_Un 102 y_Un_readCoded ∈ lwG := in_G (List.mem_of_getElem? (i := 577) (by decide +kernel)) rfl
theorem q305 : Cond.instanceMethod y_Un_readCoded ∈ lwG := in_G (List.mem_of_getElem? (i := 579) (by decide +kernel)) rfl
theorem q306 : Cond.selects R_Un y_Un_readCoded y_Un_readCoded ∈ lwG := in_G (List.mem_of_getElem? (i := 9) (by decide +kernel)) rfl
set_option maxRecDepth 100000 in
theorem q307 : Cond.code y_Un_readCoded b_Un_readCoded 6 (some .boolean) ∈ lwG := in_G (List.mem_of_getElem? (i := 580) rfl) rfl
theorem q308 : Cond.fieldLinkNest R_Un 140 "TextPress" "SIZE_ORDER" "[I" "TextPress" ∈ lwG := in_G (List.mem_of_getElem? (i := 599) (by decide +kernel)) rfl
theorem q309 : Cond.constant R_Co 25 32768 ∈ lwG := in_G (List.mem_of_getElem? (i := 605) (by decide +kernel)) rfl
theorem q310 : Cond.methodLink R_Un 143 y_Co_isFull ∈ lwG := in_G (List.mem_of_getElem? (i := 601) (by decide +kernel)) rfl
theorem q311 : Cond.instanceMethod y_Co_isFull ∈ lwG := in_G (List.mem_of_getElem? (i := 602) (by decide +kernel)) rfl
theorem q312 : Cond.selects R_Co y_Co_isFull y_Co_isFull ∈ lwG := in_G (List.mem_of_getElem? (i := 603) (by decide +kernel)) rfl
set_option maxRecDepth 100000 in
theorem q313 : Cond.code y_Co_isFull b_Co_isFull 3 (some .boolean) ∈ lwG := in_G (List.mem_of_getElem? (i := 604) rfl) rfl
theorem q314 : Cond.methodLink R_Un 153 y_Un_readTimes ∈ lwG := in_G (List.mem_of_getElem? (i := 610) (by decide +kernel)) rfl
theorem q315 : Cond.instanceMethod y_Un_readTimes ∈ lwG := in_G (List.mem_of_getElem? (i := 612) (by decide +kernel)) rfl
theorem q316 : Cond.selects R_Un y_Un_readTimes y_Un_readTimes ∈ lwG := in_G (List.mem_of_getElem? (i := 13) (by decide +kernel)) rfl
set_option maxRecDepth 100000 in
theorem q317 : Cond.code y_Un_readTimes b_Un_readTimes 2 (some .int) ∈ lwG := in_G (List.mem_of_getElem? (i := 613) rfl) rfl
theorem q318 : Cond.methodLink R_Un 146 y_Un_readLengths ∈ lwG := in_G (List.mem_of_getElem? (i := 606) (by decide +kernel)) rfl
theorem q319 : Cond.instanceMethod y_Un_readLengths ∈ lwG := in_G (List.mem_of_getElem? (i := 608) (by decide +kernel)) rfl
theorem q320 : Cond.selects R_Un y_Un_readLengths y_Un_readLengths ∈ lwG := in_G (List.mem_of_getElem? (i := 12) (by decide +kernel)) rfl
set_option maxRecDepth 100000 in
theorem q321 : Cond.code y_Un_readLengths b_Un_readLengths 7 (some .boolean) ∈ lwG := in_G (List.mem_of_getElem? (i := 609) rfl) rfl
theorem q322 : Cond.methodLink R_Un 150 y_Co_isScant ∈ lwG := in_G (List.mem_of_getElem? (i := 614) (by decide +kernel)) rfl
theorem q323 : Cond.instanceMethod y_Co_isScant ∈ lwG := in_G (List.mem_of_getElem? (i := 615) (by decide +kernel)) rfl
theorem q324 : Cond.selects R_Co y_Co_isScant y_Co_isScant ∈ lwG := in_G (List.mem_of_getElem? (i := 616) (by decide +kernel)) rfl
set_option maxRecDepth 100000 in
theorem q325 : Cond.code y_Co_isScant b_Co_isScant 3 (some .boolean) ∈ lwG := in_G (List.mem_of_getElem? (i := 617) rfl) rfl
theorem q326 : Cond.methodLink R_Un 106 y_Un_readCodes ∈ lwG := in_G (List.mem_of_getElem? (i := 595) (by decide +kernel)) rfl
theorem q327 : Cond.instanceMethod y_Un_readCodes ∈ lwG := in_G (List.mem_of_getElem? (i := 597) (by decide +kernel)) rfl
theorem q328 : Cond.selects R_Un y_Un_readCodes y_Un_readCodes ∈ lwG := in_G (List.mem_of_getElem? (i := 11) (by decide +kernel)) rfl
set_option maxRecDepth 100000 in
theorem q329 : Cond.code y_Un_readCodes b_Un_readCodes 5 (some .boolean) ∈ lwG := in_G (List.mem_of_getElem? (i := 598) rfl) rfl
theorem q330 : Cond.methodLink R_Un 78 y_Un_readBlock ∈ lwG := in_G (List.mem_of_getElem? (i := 557) (by decide +kernel)) rfl
theorem q331 : Cond.instanceMethod y_Un_readBlock ∈ lwG := in_G (List.mem_of_getElem? (i := 559) (by decide +kernel)) rfl
theorem q332 : Cond.selects R_Un y_Un_readBlock y_Un_readBlock ∈ lwG := in_G (List.mem_of_getElem? (i := 7) (by decide +kernel)) rfl
set_option maxRecDepth 100000 in
theorem q333 : Cond.code y_Un_readBlock b_Un_readBlock 3 (some .boolean) ∈ lwG := in_G (List.mem_of_getElem? (i := 560) rfl) rfl
theorem q334 : Cond.methodLink R_BR 33 y_BR_take ∈ lwG := in_G (List.mem_of_getElem? (i := 622) (by decide +kernel)) rfl
theorem q335 : Cond.methodLink R_Un 88 y_BR_takeNumber ∈ lwG := in_G (List.mem_of_getElem? (i := 618) (by decide +kernel)) rfl
theorem q336 : Cond.instanceMethod y_BR_takeNumber ∈ lwG := in_G (List.mem_of_getElem? (i := 619) (by decide +kernel)) rfl
theorem q337 : Cond.selects R_BR y_BR_takeNumber y_BR_takeNumber ∈ lwG := in_G (List.mem_of_getElem? (i := 620) (by decide +kernel)) rfl
set_option maxRecDepth 100000 in
theorem q338 : Cond.code y_BR_takeNumber b_BR_takeNumber 3 (some .int) ∈ lwG := in_G (List.mem_of_getElem? (i := 621) rfl) rfl
theorem q339 : Cond.methodLink R_Un 92 y_Row_adler32 ∈ lwG := in_G (List.mem_of_getElem? (i := 623) (by decide +kernel)) rfl
theorem q340 : Cond.methodLink R_Un 95 y_BR_isAtEnd ∈ lwG := in_G (List.mem_of_getElem? (i := 624) (by decide +kernel)) rfl
theorem q341 : Cond.instanceMethod y_BR_isAtEnd ∈ lwG := in_G (List.mem_of_getElem? (i := 625) (by decide +kernel)) rfl
theorem q342 : Cond.selects R_BR y_BR_isAtEnd y_BR_isAtEnd ∈ lwG := in_G (List.mem_of_getElem? (i := 626) (by decide +kernel)) rfl
set_option maxRecDepth 100000 in
theorem q343 : Cond.code y_BR_isAtEnd b_BR_isAtEnd 1 (some .boolean) ∈ lwG := in_G (List.mem_of_getElem? (i := 627) rfl) rfl
theorem q344 : Cond.methodLink R_TP 85 y_Un_read ∈ lwG := in_G (List.mem_of_getElem? (i := 537) (by decide +kernel)) rfl
theorem q345 : Cond.instanceMethod y_Un_read ∈ lwG := in_G (List.mem_of_getElem? (i := 538) (by decide +kernel)) rfl
theorem q346 : Cond.selects R_Un y_Un_read y_Un_read ∈ lwG := in_G (List.mem_of_getElem? (i := 539) (by decide +kernel)) rfl
set_option maxRecDepth 100000 in
theorem q347 : Cond.code y_Un_read b_Un_read 5 (some .boolean) ∈ lwG := in_G (List.mem_of_getElem? (i := 540) rfl) rfl
theorem q348 : Cond.methodLink R_TP 98 y_Un_blocks ∈ lwG := in_G (List.mem_of_getElem? (i := 644) (by decide +kernel)) rfl
theorem q349 : Cond.instanceMethod y_Un_blocks ∈ lwG := in_G (List.mem_of_getElem? (i := 645) (by decide +kernel)) rfl
theorem q350 : Cond.selects R_Un y_Un_blocks y_Un_blocks ∈ lwG := in_G (List.mem_of_getElem? (i := 646) (by decide +kernel)) rfl
set_option maxRecDepth 100000 in
theorem q351 : Cond.code y_Un_blocks b_Un_blocks 1 (some .int) ∈ lwG := in_G (List.mem_of_getElem? (i := 647) rfl) rfl
theorem q352 : Cond.fieldLink R_TP 101 "TextPress" "blocks" "I" ∈ lwG := in_G (List.mem_of_getElem? (i := 234) (by decide +kernel)) rfl
theorem q353 : Cond.methodLink R_TP 103 y_Un_toldBlocks ∈ lwG := in_G (List.mem_of_getElem? (i := 648) (by decide +kernel)) rfl
theorem q354 : Cond.instanceMethod y_Un_toldBlocks ∈ lwG := in_G (List.mem_of_getElem? (i := 649) (by decide +kernel)) rfl
theorem q355 : Cond.selects R_Un y_Un_toldBlocks y_Un_toldBlocks ∈ lwG := in_G (List.mem_of_getElem? (i := 650) (by decide +kernel)) rfl
set_option maxRecDepth 100000 in
theorem q356 : Cond.code y_Un_toldBlocks b_Un_toldBlocks 1 (some .int) ∈ lwG := in_G (List.mem_of_getElem? (i := 651) rfl) rfl
theorem q357 : Cond.fieldLink R_TP 106 "TextPress" "toldBlocks" "I" ∈ lwG := in_G (List.mem_of_getElem? (i := 235) (by decide +kernel)) rfl
theorem q358 : Cond.fieldLink R_TP 89 "TextPress" "damagedReadings" "I" ∈ lwG := in_G (List.mem_of_getElem? (i := 236) (by decide +kernel)) rfl
theorem q359 : Cond.classLink R_TP 93 "java/lang/ArithmeticException" ∈ lwG := in_G (List.mem_of_getElem? (i := 628) (by decide +kernel)) rfl
theorem q360 : Cond.instantiable "java/lang/ArithmeticException" 6 ∈ lwG := in_G (List.mem_of_getElem? (i := 629) (by decide +kernel)) rfl
theorem q361 : Cond.initialized "java/lang/ArithmeticException" ∈ lwG := in_G (List.mem_of_getElem? (i := 57) (by decide +kernel)) rfl
theorem q362 : Cond.stringRef R_TP 95 "INPUT is DAMAGED" ∈ lwG := in_G (List.mem_of_getElem? (i := 637) (by decide +kernel)) rfl
theorem q363 : Cond.methodLink R_Row 30 arraycopyName ∈ lwG := in_G (List.mem_of_getElem? (i := 663) (by decide +kernel)) rfl
theorem q364 : Cond.methodLink R_TP 108 y_Row_copyFrom ∈ lwG := in_G (List.mem_of_getElem? (i := 659) (by decide +kernel)) rfl
theorem q365 : Cond.instanceMethod y_Row_copyFrom ∈ lwG := in_G (List.mem_of_getElem? (i := 660) (by decide +kernel)) rfl
theorem q366 : Cond.selects R_Row y_Row_copyFrom y_Row_copyFrom ∈ lwG := in_G (List.mem_of_getElem? (i := 661) (by decide +kernel)) rfl
set_option maxRecDepth 100000 in
theorem q367 : Cond.code y_Row_copyFrom b_Row_copyFrom 2 none ∈ lwG := in_G (List.mem_of_getElem? (i := 662) rfl) rfl
theorem q368 : Cond.constant R_Sha 16 1732584193 ∈ lwG := in_G (List.mem_of_getElem? (i := 676) (by decide +kernel)) rfl
theorem q369 : Cond.constant R_Sha 17 (-271733879) ∈ lwG := in_G (List.mem_of_getElem? (i := 677) (by decide +kernel)) rfl
theorem q370 : Cond.constant R_Sha 18 (-1732584194) ∈ lwG := in_G (List.mem_of_getElem? (i := 678) (by decide +kernel)) rfl
theorem q371 : Cond.constant R_Sha 19 271733878 ∈ lwG := in_G (List.mem_of_getElem? (i := 679) (by decide +kernel)) rfl
theorem q372 : Cond.constant R_Sha 20 (-1009589776) ∈ lwG := in_G (List.mem_of_getElem? (i := 680) (by decide +kernel)) rfl
theorem q373 : Cond.methodLink R_Sha 21 y_Row_length ∈ lwG := in_G (List.mem_of_getElem? (i := 681) (by decide +kernel)) rfl
theorem q374 : Cond.methodLink R_Sha 44 y_Row_at ∈ lwG := in_G (List.mem_of_getElem? (i := 689) (by decide +kernel)) rfl
theorem q375 : Cond.methodLink R_Sha 36 y_Sha_paddedByte ∈ lwG := in_G (List.mem_of_getElem? (i := 686) (by decide +kernel)) rfl
theorem q376 : Cond.static y_Sha_paddedByte ∈ lwG := in_G (List.mem_of_getElem? (i := 687) (by decide +kernel)) rfl
set_option maxRecDepth 100000 in
theorem q377 : Cond.code y_Sha_paddedByte b_Sha_paddedByte 4 (some .int) ∈ lwG := in_G (List.mem_of_getElem? (i := 688) rfl) rfl
theorem q378 : Cond.methodLink R_Sha 40 y_Sha_rotated ∈ lwG := in_G (List.mem_of_getElem? (i := 690) (by decide +kernel)) rfl
theorem q379 : Cond.static y_Sha_rotated ∈ lwG := in_G (List.mem_of_getElem? (i := 691) (by decide +kernel)) rfl
set_option maxRecDepth 100000 in
theorem q380 : Cond.code y_Sha_rotated b_Sha_rotated 2 (some .int) ∈ lwG := in_G (List.mem_of_getElem? (i := 692) rfl) rfl
theorem q381 : Cond.methodLink R_Sha 27 y_Sha_fillWords ∈ lwG := in_G (List.mem_of_getElem? (i := 682) (by decide +kernel)) rfl
theorem q382 : Cond.instanceMethod y_Sha_fillWords ∈ lwG := in_G (List.mem_of_getElem? (i := 684) (by decide +kernel)) rfl
theorem q383 : Cond.selects R_Sha y_Sha_fillWords y_Sha_fillWords ∈ lwG := in_G (List.mem_of_getElem? (i := 14) (by decide +kernel)) rfl
set_option maxRecDepth 100000 in
theorem q384 : Cond.code y_Sha_fillWords b_Sha_fillWords 7 none ∈ lwG := in_G (List.mem_of_getElem? (i := 685) rfl) rfl
theorem q385 : Cond.methodLink R_Sha 48 y_Sha_chosen ∈ lwG := in_G (List.mem_of_getElem? (i := 697) (by decide +kernel)) rfl
theorem q386 : Cond.static y_Sha_chosen ∈ lwG := in_G (List.mem_of_getElem? (i := 698) (by decide +kernel)) rfl
set_option maxRecDepth 100000 in
theorem q387 : Cond.code y_Sha_chosen b_Sha_chosen 4 (some .int) ∈ lwG := in_G (List.mem_of_getElem? (i := 699) rfl) rfl
theorem q388 : Cond.constant R_Sha 58 (-899497514) ∈ lwG := in_G (List.mem_of_getElem? (i := 706) (by decide +kernel)) rfl
theorem q389 : Cond.constant R_Sha 57 (-1894007588) ∈ lwG := in_G (List.mem_of_getElem? (i := 705) (by decide +kernel)) rfl
theorem q390 : Cond.constant R_Sha 56 1859775393 ∈ lwG := in_G (List.mem_of_getElem? (i := 704) (by decide +kernel)) rfl
theorem q391 : Cond.constant R_Sha 55 1518500249 ∈ lwG := in_G (List.mem_of_getElem? (i := 703) (by decide +kernel)) rfl
theorem q392 : Cond.methodLink R_Sha 52 y_Sha_addend ∈ lwG := in_G (List.mem_of_getElem? (i := 700) (by decide +kernel)) rfl
theorem q393 : Cond.static y_Sha_addend ∈ lwG := in_G (List.mem_of_getElem? (i := 701) (by decide +kernel)) rfl
set_option maxRecDepth 100000 in
theorem q394 : Cond.code y_Sha_addend b_Sha_addend 1 (some .int) ∈ lwG := in_G (List.mem_of_getElem? (i := 702) rfl) rfl
theorem q395 : Cond.methodLink R_Sha 31 y_Sha_mixBlock ∈ lwG := in_G (List.mem_of_getElem? (i := 693) (by decide +kernel)) rfl
theorem q396 : Cond.instanceMethod y_Sha_mixBlock ∈ lwG := in_G (List.mem_of_getElem? (i := 695) (by decide +kernel)) rfl
theorem q397 : Cond.selects R_Sha y_Sha_mixBlock y_Sha_mixBlock ∈ lwG := in_G (List.mem_of_getElem? (i := 15) (by decide +kernel)) rfl
set_option maxRecDepth 100000 in
theorem q398 : Cond.code y_Sha_mixBlock b_Sha_mixBlock 8 none ∈ lwG := in_G (List.mem_of_getElem? (i := 696) rfl) rfl
theorem q399 : Cond.methodLink R_TP 114 y_Sha_run ∈ lwG := in_G (List.mem_of_getElem? (i := 672) (by decide +kernel)) rfl
theorem q400 : Cond.instanceMethod y_Sha_run ∈ lwG := in_G (List.mem_of_getElem? (i := 673) (by decide +kernel)) rfl
theorem q401 : Cond.selects R_Sha y_Sha_run y_Sha_run ∈ lwG := in_G (List.mem_of_getElem? (i := 674) (by decide +kernel)) rfl
set_option maxRecDepth 100000 in
theorem q402 : Cond.code y_Sha_run b_Sha_run 4 none ∈ lwG := in_G (List.mem_of_getElem? (i := 675) rfl) rfl
theorem q403 : Cond.constantLong R_Sha 34 4294967295 ∈ lwG := in_G (List.mem_of_getElem? (i := 711) (by decide +kernel)) rfl
theorem q404 : Cond.methodLink R_TP 116 y_Sha_word ∈ lwG := in_G (List.mem_of_getElem? (i := 707) (by decide +kernel)) rfl
theorem q405 : Cond.instanceMethod y_Sha_word ∈ lwG := in_G (List.mem_of_getElem? (i := 708) (by decide +kernel)) rfl
theorem q406 : Cond.selects R_Sha y_Sha_word y_Sha_word ∈ lwG := in_G (List.mem_of_getElem? (i := 709) (by decide +kernel)) rfl
set_option maxRecDepth 100000 in
theorem q407 : Cond.code y_Sha_word b_Sha_word 2 (some .long) ∈ lwG := in_G (List.mem_of_getElem? (i := 710) rfl) rfl
theorem q408 : Cond.stringRef R_TP 112 "the parts are 0, 1 and 2" ∈ lwG := in_G (List.mem_of_getElem? (i := 671) (by decide +kernel)) rfl
theorem q409 : Cond.classLink R_TP 120 "java/lang/IndexOutOfBoundsException" ∈ lwG := in_G (List.mem_of_getElem? (i := 720) (by decide +kernel)) rfl
theorem q410 : Cond.instantiable "java/lang/IndexOutOfBoundsException" 6 ∈ lwG := in_G (List.mem_of_getElem? (i := 721) (by decide +kernel)) rfl
theorem q411 : Cond.initialized "java/lang/IndexOutOfBoundsException" ∈ lwG := in_G (List.mem_of_getElem? (i := 58) (by decide +kernel)) rfl
theorem q412 : Cond.stringRef R_TP 122 "no such place in OUTPUT" ∈ lwG := in_G (List.mem_of_getElem? (i := 729) (by decide +kernel)) rfl
theorem q413 : Cond.methodLink R_TP 125 y_Pr_pairs ∈ lwG := in_G (List.mem_of_getElem? (i := 397) (by decide +kernel)) rfl
theorem q414 : Cond.instanceMethod y_Pr_pairs ∈ lwG := in_G (List.mem_of_getElem? (i := 398) (by decide +kernel)) rfl
theorem q415 : Cond.selects R_Pr y_Pr_pairs y_Pr_pairs ∈ lwG := in_G (List.mem_of_getElem? (i := 399) (by decide +kernel)) rfl
set_option maxRecDepth 100000 in
theorem q416 : Cond.code y_Pr_pairs b_Pr_pairs 1 (some .int) ∈ lwG := in_G (List.mem_of_getElem? (i := 400) rfl) rfl
theorem q417 : Cond.methodLink R_TP 128 y_Pr_literals ∈ lwG := in_G (List.mem_of_getElem? (i := 401) (by decide +kernel)) rfl
theorem q418 : Cond.instanceMethod y_Pr_literals ∈ lwG := in_G (List.mem_of_getElem? (i := 402) (by decide +kernel)) rfl
theorem q419 : Cond.selects R_Pr y_Pr_literals y_Pr_literals ∈ lwG := in_G (List.mem_of_getElem? (i := 403) (by decide +kernel)) rfl
set_option maxRecDepth 100000 in
theorem q420 : Cond.code y_Pr_literals b_Pr_literals 1 (some .int) ∈ lwG := in_G (List.mem_of_getElem? (i := 404) rfl) rfl
theorem q421 : Cond.methodLink R_Mo 1 objectInit ∈ lwG := in_G (List.mem_of_getElem? (i := 741) (by decide +kernel)) rfl
theorem q422 : Cond.constant R_Mo 7 65536 ∈ lwG := in_G (List.mem_of_getElem? (i := 742) (by decide +kernel)) rfl
theorem q423 : Cond.fieldLink R_Mo 8 "TextPressModel" "input" "[B" ∈ lwG := in_G (List.mem_of_getElem? (i := 744) (by decide +kernel)) rfl
theorem q424 : Cond.constant R_Mo 14 74000 ∈ lwG := in_G (List.mem_of_getElem? (i := 743) (by decide +kernel)) rfl
theorem q425 : Cond.fieldLink R_Mo 15 "TextPressModel" "output" "[B" ∈ lwG := in_G (List.mem_of_getElem? (i := 745) (by decide +kernel)) rfl
theorem q426 : Cond.fieldLink R_Mo 18 "TextPressModel" "room" "[B" ∈ lwG := in_G (List.mem_of_getElem? (i := 746) (by decide +kernel)) rfl
theorem q427 : Cond.fieldLink R_Mo 21 "TextPressModel" "lengths" "[I" ∈ lwG := in_G (List.mem_of_getElem? (i := 761) (by decide +kernel)) rfl
theorem q428 : Cond.fieldLink R_Mo 25 "TextPressModel" "codes" "[I" ∈ lwG := in_G (List.mem_of_getElem? (i := 762) (by decide +kernel)) rfl
theorem q429 : Cond.fieldLink R_Mo 28 "TextPressModel" "told0" "[I" ∈ lwG := in_G (List.mem_of_getElem? (i := 763) (by decide +kernel)) rfl
theorem q430 : Cond.fieldLink R_Mo 31 "TextPressModel" "many" "[I" ∈ lwG := in_G (List.mem_of_getElem? (i := 764) (by decide +kernel)) rfl
theorem q431 : Cond.fieldLink R_Mo 34 "TextPressModel" "first" "[I" ∈ lwG := in_G (List.mem_of_getElem? (i := 765) (by decide +kernel)) rfl
theorem q432 : Cond.fieldLink R_Mo 37 "TextPressModel" "words" "[I" ∈ lwG := in_G (List.mem_of_getElem? (i := 766) (by decide +kernel)) rfl
theorem q433 : Cond.fieldLink R_Mo 40 "TextPressModel" "sum" "[I" ∈ lwG := in_G (List.mem_of_getElem? (i := 767) (by decide +kernel)) rfl
theorem q434 : Cond.fieldLink R_Mo 43 "TextPressModel" "thrown" "I" ∈ lwG := in_G (List.mem_of_getElem? (i := 754) (by decide +kernel)) rfl
theorem q435 : Cond.fieldLink R_Mo 47 "TextPressModel" "size" "I" ∈ lwG := in_G (List.mem_of_getElem? (i := 747) (by decide +kernel)) rfl
theorem q436 : Cond.methodLink R_Mo 50 y_Mo_refuse ∈ lwG := in_G (List.mem_of_getElem? (i := 825) (by decide +kernel)) rfl
theorem q437 : Cond.instanceMethod y_Mo_refuse ∈ lwG := in_G (List.mem_of_getElem? (i := 827) (by decide +kernel)) rfl
theorem q438 : Cond.selects R_Mo y_Mo_refuse y_Mo_refuse ∈ lwG := in_G (List.mem_of_getElem? (i := 16) (by decide +kernel)) rfl
theorem q439 : Cond.initialized R_Mo ∈ lwG := in_G (List.mem_of_getElem? (i := 49) (by decide +kernel)) rfl
set_option maxRecDepth 100000 in
theorem q440 : Cond.code y_Mo_refuse b_Mo_refuse 2 (some .int) ∈ lwG := in_G (List.mem_of_getElem? (i := 828) rfl) rfl
theorem q441 : Cond.fieldLink R_Mo 54 "TextPressModel" "bits" "I" ∈ lwG := in_G (List.mem_of_getElem? (i := 755) (by decide +kernel)) rfl
theorem q442 : Cond.methodLink R_Mo 57 y_Mo_putBit ∈ lwG := in_G (List.mem_of_getElem? (i := 845) (by decide +kernel)) rfl
theorem q443 : Cond.instanceMethod y_Mo_putBit ∈ lwG := in_G (List.mem_of_getElem? (i := 847) (by decide +kernel)) rfl
theorem q444 : Cond.selects R_Mo y_Mo_putBit y_Mo_putBit ∈ lwG := in_G (List.mem_of_getElem? (i := 18) (by decide +kernel)) rfl
set_option maxRecDepth 100000 in
theorem q445 : Cond.code y_Mo_putBit b_Mo_putBit 3 none ∈ lwG := in_G (List.mem_of_getElem? (i := 848) rfl) rfl
theorem q446 : Cond.methodLink R_Mo 61 y_Mo_putCode ∈ lwG := in_G (List.mem_of_getElem? (i := 868) (by decide +kernel)) rfl
theorem q447 : Cond.instanceMethod y_Mo_putCode ∈ lwG := in_G (List.mem_of_getElem? (i := 870) (by decide +kernel)) rfl
theorem q448 : Cond.selects R_Mo y_Mo_putCode y_Mo_putCode ∈ lwG := in_G (List.mem_of_getElem? (i := 22) (by decide +kernel)) rfl
set_option maxRecDepth 100000 in
theorem q449 : Cond.code y_Mo_putCode b_Mo_putCode 4 none ∈ lwG := in_G (List.mem_of_getElem? (i := 871) rfl) rfl
theorem q450 : Cond.methodLink R_Mo 65 y_Mo_lengthBits ∈ lwG := in_G (List.mem_of_getElem? (i := 861) (by decide +kernel)) rfl
theorem q451 : Cond.static y_Mo_lengthBits ∈ lwG := in_G (List.mem_of_getElem? (i := 862) (by decide +kernel)) rfl
set_option maxRecDepth 100000 in
theorem q452 : Cond.code y_Mo_lengthBits b_Mo_lengthBits 1 (some .int) ∈ lwG := in_G (List.mem_of_getElem? (i := 863) rfl) rfl
theorem q453 : Cond.methodLink R_Mo 68 y_Mo_distanceBits ∈ lwG := in_G (List.mem_of_getElem? (i := 875) (by decide +kernel)) rfl
theorem q454 : Cond.static y_Mo_distanceBits ∈ lwG := in_G (List.mem_of_getElem? (i := 876) (by decide +kernel)) rfl
set_option maxRecDepth 100000 in
theorem q455 : Cond.code y_Mo_distanceBits b_Mo_distanceBits 1 (some .int) ∈ lwG := in_G (List.mem_of_getElem? (i := 877) rfl) rfl
theorem q456 : Cond.methodLink R_Mo 71 y_Mo_lengthBase ∈ lwG := in_G (List.mem_of_getElem? (i := 858) (by decide +kernel)) rfl
theorem q457 : Cond.static y_Mo_lengthBase ∈ lwG := in_G (List.mem_of_getElem? (i := 859) (by decide +kernel)) rfl
set_option maxRecDepth 100000 in
theorem q458 : Cond.code y_Mo_lengthBase b_Mo_lengthBase 3 (some .int) ∈ lwG := in_G (List.mem_of_getElem? (i := 860) rfl) rfl
theorem q459 : Cond.methodLink R_Mo 74 y_Mo_putSign ∈ lwG := in_G (List.mem_of_getElem? (i := 864) (by decide +kernel)) rfl
theorem q460 : Cond.instanceMethod y_Mo_putSign ∈ lwG := in_G (List.mem_of_getElem? (i := 866) (by decide +kernel)) rfl
theorem q461 : Cond.selects R_Mo y_Mo_putSign y_Mo_putSign ∈ lwG := in_G (List.mem_of_getElem? (i := 21) (by decide +kernel)) rfl
set_option maxRecDepth 100000 in
theorem q462 : Cond.code y_Mo_putSign b_Mo_putSign 2 none ∈ lwG := in_G (List.mem_of_getElem? (i := 867) rfl) rfl
theorem q463 : Cond.methodLink R_Mo 77 y_Mo_putNumber ∈ lwG := in_G (List.mem_of_getElem? (i := 841) (by decide +kernel)) rfl
theorem q464 : Cond.instanceMethod y_Mo_putNumber ∈ lwG := in_G (List.mem_of_getElem? (i := 843) (by decide +kernel)) rfl
theorem q465 : Cond.selects R_Mo y_Mo_putNumber y_Mo_putNumber ∈ lwG := in_G (List.mem_of_getElem? (i := 17) (by decide +kernel)) rfl
set_option maxRecDepth 100000 in
theorem q466 : Cond.code y_Mo_putNumber b_Mo_putNumber 4 none ∈ lwG := in_G (List.mem_of_getElem? (i := 844) rfl) rfl
theorem q467 : Cond.methodLink R_Mo 80 y_Mo_distanceBase ∈ lwG := in_G (List.mem_of_getElem? (i := 872) (by decide +kernel)) rfl
theorem q468 : Cond.static y_Mo_distanceBase ∈ lwG := in_G (List.mem_of_getElem? (i := 873) (by decide +kernel)) rfl
set_option maxRecDepth 100000 in
theorem q469 : Cond.code y_Mo_distanceBase b_Mo_distanceBase 3 (some .int) ∈ lwG := in_G (List.mem_of_getElem? (i := 874) rfl) rfl
theorem q470 : Cond.constant R_Mo 83 65521 ∈ lwG := in_G (List.mem_of_getElem? (i := 882) (by decide +kernel)) rfl
theorem q471 : Cond.fieldLink R_Mo 84 "TextPressModel" "pairs" "I" ∈ lwG := in_G (List.mem_of_getElem? (i := 749) (by decide +kernel)) rfl
theorem q472 : Cond.fieldLink R_Mo 87 "TextPressModel" "literals" "I" ∈ lwG := in_G (List.mem_of_getElem? (i := 750) (by decide +kernel)) rfl
theorem q473 : Cond.constant R_Mo 90 32768 ∈ lwG := in_G (List.mem_of_getElem? (i := 849) (by decide +kernel)) rfl
theorem q474 : Cond.methodLink R_Mo 91 y_Mo_common ∈ lwG := in_G (List.mem_of_getElem? (i := 850) (by decide +kernel)) rfl
theorem q475 : Cond.instanceMethod y_Mo_common ∈ lwG := in_G (List.mem_of_getElem? (i := 852) (by decide +kernel)) rfl
theorem q476 : Cond.selects R_Mo y_Mo_common y_Mo_common ∈ lwG := in_G (List.mem_of_getElem? (i := 19) (by decide +kernel)) rfl
set_option maxRecDepth 100000 in
theorem q477 : Cond.code y_Mo_common b_Mo_common 4 (some .int) ∈ lwG := in_G (List.mem_of_getElem? (i := 853) rfl) rfl
theorem q478 : Cond.methodLink R_Mo 95 y_Mo_putPair ∈ lwG := in_G (List.mem_of_getElem? (i := 854) (by decide +kernel)) rfl
theorem q479 : Cond.instanceMethod y_Mo_putPair ∈ lwG := in_G (List.mem_of_getElem? (i := 856) (by decide +kernel)) rfl
theorem q480 : Cond.selects R_Mo y_Mo_putPair y_Mo_putPair ∈ lwG := in_G (List.mem_of_getElem? (i := 20) (by decide +kernel)) rfl
set_option maxRecDepth 100000 in
theorem q481 : Cond.code y_Mo_putPair b_Mo_putPair 5 none ∈ lwG := in_G (List.mem_of_getElem? (i := 857) rfl) rfl
theorem q482 : Cond.fieldLink R_Mo 98 "TextPressModel" "made" "I" ∈ lwG := in_G (List.mem_of_getElem? (i := 748) (by decide +kernel)) rfl
theorem q483 : Cond.methodLink R_Mo 101 y_Mo_adler ∈ lwG := in_G (List.mem_of_getElem? (i := 878) (by decide +kernel)) rfl
theorem q484 : Cond.instanceMethod y_Mo_adler ∈ lwG := in_G (List.mem_of_getElem? (i := 880) (by decide +kernel)) rfl
theorem q485 : Cond.selects R_Mo y_Mo_adler y_Mo_adler ∈ lwG := in_G (List.mem_of_getElem? (i := 23) (by decide +kernel)) rfl
set_option maxRecDepth 100000 in
theorem q486 : Cond.code y_Mo_adler b_Mo_adler 6 (some .int) ∈ lwG := in_G (List.mem_of_getElem? (i := 881) rfl) rfl
theorem q487 : Cond.fieldLink R_Mo 105 "TextPressModel" "at" "I" ∈ lwG := in_G (List.mem_of_getElem? (i := 756) (by decide +kernel)) rfl
theorem q488 : Cond.fieldLink R_Mo 108 "TextPressModel" "wrong" "Z" ∈ lwG := in_G (List.mem_of_getElem? (i := 760) (by decide +kernel)) rfl
theorem q489 : Cond.methodLink R_Mo 112 y_Mo_bit ∈ lwG := in_G (List.mem_of_getElem? (i := 891) (by decide +kernel)) rfl
theorem q490 : Cond.instanceMethod y_Mo_bit ∈ lwG := in_G (List.mem_of_getElem? (i := 893) (by decide +kernel)) rfl
theorem q491 : Cond.selects R_Mo y_Mo_bit y_Mo_bit ∈ lwG := in_G (List.mem_of_getElem? (i := 25) (by decide +kernel)) rfl
set_option maxRecDepth 100000 in
theorem q492 : Cond.code y_Mo_bit b_Mo_bit 1 (some .int) ∈ lwG := in_G (List.mem_of_getElem? (i := 894) rfl) rfl
theorem q493 : Cond.fieldLink R_Mo 116 "TextPressModel" "filled" "I" ∈ lwG := in_G (List.mem_of_getElem? (i := 757) (by decide +kernel)) rfl
theorem q494 : Cond.methodLink R_Mo 119 y_Mo_number ∈ lwG := in_G (List.mem_of_getElem? (i := 887) (by decide +kernel)) rfl
theorem q495 : Cond.instanceMethod y_Mo_number ∈ lwG := in_G (List.mem_of_getElem? (i := 889) (by decide +kernel)) rfl
theorem q496 : Cond.selects R_Mo y_Mo_number y_Mo_number ∈ lwG := in_G (List.mem_of_getElem? (i := 24) (by decide +kernel)) rfl
set_option maxRecDepth 100000 in
theorem q497 : Cond.code y_Mo_number b_Mo_number 4 (some .int) ∈ lwG := in_G (List.mem_of_getElem? (i := 890) rfl) rfl
theorem q498 : Cond.methodLink R_Mo 122 y_Mo_sign ∈ lwG := in_G (List.mem_of_getElem? (i := 927) (by decide +kernel)) rfl
theorem q499 : Cond.instanceMethod y_Mo_sign ∈ lwG := in_G (List.mem_of_getElem? (i := 929) (by decide +kernel)) rfl
theorem q500 : Cond.selects R_Mo y_Mo_sign y_Mo_sign ∈ lwG := in_G (List.mem_of_getElem? (i := 33) (by decide +kernel)) rfl
set_option maxRecDepth 100000 in
theorem q501 : Cond.code y_Mo_sign b_Mo_sign 6 (some .int) ∈ lwG := in_G (List.mem_of_getElem? (i := 930) rfl) rfl
theorem q502 : Cond.methodLink R_Mo 125 y_Mo_give ∈ lwG := in_G (List.mem_of_getElem? (i := 904) (by decide +kernel)) rfl
theorem q503 : Cond.instanceMethod y_Mo_give ∈ lwG := in_G (List.mem_of_getElem? (i := 906) (by decide +kernel)) rfl
theorem q504 : Cond.selects R_Mo y_Mo_give y_Mo_give ∈ lwG := in_G (List.mem_of_getElem? (i := 28) (by decide +kernel)) rfl
set_option maxRecDepth 100000 in
theorem q505 : Cond.code y_Mo_give b_Mo_give 2 none ∈ lwG := in_G (List.mem_of_getElem? (i := 907) rfl) rfl
theorem q506 : Cond.methodLink R_Mo 128 y_Mo_pair ∈ lwG := in_G (List.mem_of_getElem? (i := 935) (by decide +kernel)) rfl
theorem q507 : Cond.instanceMethod y_Mo_pair ∈ lwG := in_G (List.mem_of_getElem? (i := 937) (by decide +kernel)) rfl
theorem q508 : Cond.selects R_Mo y_Mo_pair y_Mo_pair ∈ lwG := in_G (List.mem_of_getElem? (i := 35) (by decide +kernel)) rfl
set_option maxRecDepth 100000 in
theorem q509 : Cond.code y_Mo_pair b_Mo_pair 6 none ∈ lwG := in_G (List.mem_of_getElem? (i := 938) rfl) rfl
theorem q510 : Cond.constant R_Mo 131 65535 ∈ lwG := in_G (List.mem_of_getElem? (i := 903) (by decide +kernel)) rfl
theorem q511 : Cond.methodLink R_Mo 132 y_Mo_placeOf ∈ lwG := in_G (List.mem_of_getElem? (i := 916) (by decide +kernel)) rfl
theorem q512 : Cond.static y_Mo_placeOf ∈ lwG := in_G (List.mem_of_getElem? (i := 917) (by decide +kernel)) rfl
set_option maxRecDepth 100000 in
theorem q513 : Cond.code y_Mo_placeOf b_Mo_placeOf 1 (some .int) ∈ lwG := in_G (List.mem_of_getElem? (i := 918) rfl) rfl
theorem q514 : Cond.methodLink R_Mo 135 y_Mo_fill ∈ lwG := in_G (List.mem_of_getElem? (i := 919) (by decide +kernel)) rfl
theorem q515 : Cond.instanceMethod y_Mo_fill ∈ lwG := in_G (List.mem_of_getElem? (i := 921) (by decide +kernel)) rfl
theorem q516 : Cond.selects R_Mo y_Mo_fill y_Mo_fill ∈ lwG := in_G (List.mem_of_getElem? (i := 31) (by decide +kernel)) rfl
set_option maxRecDepth 100000 in
theorem q517 : Cond.code y_Mo_fill b_Mo_fill 5 (some .int) ∈ lwG := in_G (List.mem_of_getElem? (i := 922) rfl) rfl
theorem q518 : Cond.methodLink R_Mo 138 y_Mo_assign ∈ lwG := in_G (List.mem_of_getElem? (i := 923) (by decide +kernel)) rfl
theorem q519 : Cond.instanceMethod y_Mo_assign ∈ lwG := in_G (List.mem_of_getElem? (i := 925) (by decide +kernel)) rfl
theorem q520 : Cond.selects R_Mo y_Mo_assign y_Mo_assign ∈ lwG := in_G (List.mem_of_getElem? (i := 32) (by decide +kernel)) rfl
set_option maxRecDepth 100000 in
theorem q521 : Cond.code y_Mo_assign b_Mo_assign 6 none ∈ lwG := in_G (List.mem_of_getElem? (i := 926) rfl) rfl
theorem q522 : Cond.fieldLink R_Mo 141 "TextPressModel" "readBlocks" "I" ∈ lwG := in_G (List.mem_of_getElem? (i := 758) (by decide +kernel)) rfl
theorem q523 : Cond.methodLink R_Mo 144 y_Mo_stored ∈ lwG := in_G (List.mem_of_getElem? (i := 899) (by decide +kernel)) rfl
theorem q524 : Cond.instanceMethod y_Mo_stored ∈ lwG := in_G (List.mem_of_getElem? (i := 901) (by decide +kernel)) rfl
theorem q525 : Cond.selects R_Mo y_Mo_stored y_Mo_stored ∈ lwG := in_G (List.mem_of_getElem? (i := 27) (by decide +kernel)) rfl
set_option maxRecDepth 100000 in
theorem q526 : Cond.code y_Mo_stored b_Mo_stored 5 none ∈ lwG := in_G (List.mem_of_getElem? (i := 902) rfl) rfl
theorem q527 : Cond.methodLink R_Mo 147 y_Mo_fixed ∈ lwG := in_G (List.mem_of_getElem? (i := 908) (by decide +kernel)) rfl
theorem q528 : Cond.instanceMethod y_Mo_fixed ∈ lwG := in_G (List.mem_of_getElem? (i := 910) (by decide +kernel)) rfl
theorem q529 : Cond.selects R_Mo y_Mo_fixed y_Mo_fixed ∈ lwG := in_G (List.mem_of_getElem? (i := 29) (by decide +kernel)) rfl
set_option maxRecDepth 100000 in
theorem q530 : Cond.code y_Mo_fixed b_Mo_fixed 2 none ∈ lwG := in_G (List.mem_of_getElem? (i := 911) rfl) rfl
theorem q531 : Cond.fieldLink R_Mo 150 "TextPressModel" "readTold" "I" ∈ lwG := in_G (List.mem_of_getElem? (i := 759) (by decide +kernel)) rfl
theorem q532 : Cond.methodLink R_Mo 153 y_Mo_table ∈ lwG := in_G (List.mem_of_getElem? (i := 912) (by decide +kernel)) rfl
theorem q533 : Cond.instanceMethod y_Mo_table ∈ lwG := in_G (List.mem_of_getElem? (i := 914) (by decide +kernel)) rfl
theorem q534 : Cond.selects R_Mo y_Mo_table y_Mo_table ∈ lwG := in_G (List.mem_of_getElem? (i := 30) (by decide +kernel)) rfl
set_option maxRecDepth 100000 in
theorem q535 : Cond.code y_Mo_table b_Mo_table 8 none ∈ lwG := in_G (List.mem_of_getElem? (i := 915) rfl) rfl
theorem q536 : Cond.methodLink R_Mo 156 y_Mo_signs ∈ lwG := in_G (List.mem_of_getElem? (i := 931) (by decide +kernel)) rfl
theorem q537 : Cond.instanceMethod y_Mo_signs ∈ lwG := in_G (List.mem_of_getElem? (i := 933) (by decide +kernel)) rfl
theorem q538 : Cond.selects R_Mo y_Mo_signs y_Mo_signs ∈ lwG := in_G (List.mem_of_getElem? (i := 34) (by decide +kernel)) rfl
set_option maxRecDepth 100000 in
theorem q539 : Cond.code y_Mo_signs b_Mo_signs 2 none ∈ lwG := in_G (List.mem_of_getElem? (i := 934) rfl) rfl
theorem q540 : Cond.methodLink R_Mo 159 y_Mo_block ∈ lwG := in_G (List.mem_of_getElem? (i := 895) (by decide +kernel)) rfl
theorem q541 : Cond.instanceMethod y_Mo_block ∈ lwG := in_G (List.mem_of_getElem? (i := 897) (by decide +kernel)) rfl
theorem q542 : Cond.selects R_Mo y_Mo_block y_Mo_block ∈ lwG := in_G (List.mem_of_getElem? (i := 26) (by decide +kernel)) rfl
set_option maxRecDepth 100000 in
theorem q543 : Cond.code y_Mo_block b_Mo_block 2 none ∈ lwG := in_G (List.mem_of_getElem? (i := 898) rfl) rfl
theorem q544 : Cond.fieldLink R_Mo 165 "TextPressModel" "blocks" "I" ∈ lwG := in_G (List.mem_of_getElem? (i := 751) (by decide +kernel)) rfl
theorem q545 : Cond.fieldLink R_Mo 168 "TextPressModel" "told" "I" ∈ lwG := in_G (List.mem_of_getElem? (i := 752) (by decide +kernel)) rfl
theorem q546 : Cond.fieldLink R_Mo 162 "TextPressModel" "damaged" "I" ∈ lwG := in_G (List.mem_of_getElem? (i := 753) (by decide +kernel)) rfl
theorem q547 : Cond.methodLink R_Mo 171 y_Mo_padded ∈ lwG := in_G (List.mem_of_getElem? (i := 956) (by decide +kernel)) rfl
theorem q548 : Cond.instanceMethod y_Mo_padded ∈ lwG := in_G (List.mem_of_getElem? (i := 958) (by decide +kernel)) rfl
theorem q549 : Cond.selects R_Mo y_Mo_padded y_Mo_padded ∈ lwG := in_G (List.mem_of_getElem? (i := 37) (by decide +kernel)) rfl
set_option maxRecDepth 100000 in
theorem q550 : Cond.code y_Mo_padded b_Mo_padded 3 (some .int) ∈ lwG := in_G (List.mem_of_getElem? (i := 959) rfl) rfl
theorem q551 : Cond.methodLink R_Mo 174 y_Mo_turned ∈ lwG := in_G (List.mem_of_getElem? (i := 960) (by decide +kernel)) rfl
theorem q552 : Cond.static y_Mo_turned ∈ lwG := in_G (List.mem_of_getElem? (i := 961) (by decide +kernel)) rfl
set_option maxRecDepth 100000 in
theorem q553 : Cond.code y_Mo_turned b_Mo_turned 2 (some .int) ∈ lwG := in_G (List.mem_of_getElem? (i := 962) rfl) rfl
theorem q554 : Cond.constant R_Mo 180 (-899497514) ∈ lwG := in_G (List.mem_of_getElem? (i := 966) (by decide +kernel)) rfl
theorem q555 : Cond.constant R_Mo 179 (-1894007588) ∈ lwG := in_G (List.mem_of_getElem? (i := 965) (by decide +kernel)) rfl
theorem q556 : Cond.constant R_Mo 178 1859775393 ∈ lwG := in_G (List.mem_of_getElem? (i := 964) (by decide +kernel)) rfl
theorem q557 : Cond.constant R_Mo 177 1518500249 ∈ lwG := in_G (List.mem_of_getElem? (i := 963) (by decide +kernel)) rfl
theorem q558 : Cond.constant R_Mo 181 1732584193 ∈ lwG := in_G (List.mem_of_getElem? (i := 947) (by decide +kernel)) rfl
theorem q559 : Cond.constant R_Mo 182 (-271733879) ∈ lwG := in_G (List.mem_of_getElem? (i := 948) (by decide +kernel)) rfl
theorem q560 : Cond.constant R_Mo 183 (-1732584194) ∈ lwG := in_G (List.mem_of_getElem? (i := 949) (by decide +kernel)) rfl
theorem q561 : Cond.constant R_Mo 184 271733878 ∈ lwG := in_G (List.mem_of_getElem? (i := 950) (by decide +kernel)) rfl
theorem q562 : Cond.constant R_Mo 185 (-1009589776) ∈ lwG := in_G (List.mem_of_getElem? (i := 951) (by decide +kernel)) rfl
theorem q563 : Cond.methodLink R_Mo 186 y_Mo_chunk ∈ lwG := in_G (List.mem_of_getElem? (i := 952) (by decide +kernel)) rfl
theorem q564 : Cond.instanceMethod y_Mo_chunk ∈ lwG := in_G (List.mem_of_getElem? (i := 954) (by decide +kernel)) rfl
theorem q565 : Cond.selects R_Mo y_Mo_chunk y_Mo_chunk ∈ lwG := in_G (List.mem_of_getElem? (i := 36) (by decide +kernel)) rfl
set_option maxRecDepth 100000 in
theorem q566 : Cond.code y_Mo_chunk b_Mo_chunk 11 none ∈ lwG := in_G (List.mem_of_getElem? (i := 955) rfl) rfl
theorem q567 : Cond.constantLong R_Mo 189 4294967295 ∈ lwG := in_G (List.mem_of_getElem? (i := 967) (by decide +kernel)) rfl
theorem q568 : Cond.methodLink R_La 7 y_TP_feed ∈ lwG := in_G (List.mem_of_getElem? (i := 409) (by decide +kernel)) rfl
theorem q569 : Cond.instanceMethod y_TP_feed ∈ lwG := in_G (List.mem_of_getElem? (i := 410) (by decide +kernel)) rfl
theorem q570 : Cond.selects R_TP y_TP_feed y_TP_feed ∈ lwG := in_G (List.mem_of_getElem? (i := 411) (by decide +kernel)) rfl
theorem q571 : Cond.initialized R_TP ∈ lwG := in_G (List.mem_of_getElem? (i := 39) (by decide +kernel)) rfl
set_option maxRecDepth 100000 in
theorem q572 : Cond.code y_TP_feed b_TP_feed 6 (some .int) ∈ lwG := in_G (List.mem_of_getElem? (i := 412) rfl) rfl
theorem q573 : Cond.classLink R_La 13 "java/lang/IllegalStateException" ∈ lwG := in_G (List.mem_of_getElem? (i := 408) (by decide +kernel)) rfl
theorem q574 : Cond.castable "java/lang/IllegalStateException" "java/lang/IllegalStateException" ∈ lwG := in_G (List.mem_of_getElem? (i := 416) (by decide +kernel)) rfl
theorem q575 : Cond.methodLink R_La 15 y_TP_end ∈ lwG := in_G (List.mem_of_getElem? (i := 487) (by decide +kernel)) rfl
theorem q576 : Cond.instanceMethod y_TP_end ∈ lwG := in_G (List.mem_of_getElem? (i := 488) (by decide +kernel)) rfl
theorem q577 : Cond.selects R_TP y_TP_end y_TP_end ∈ lwG := in_G (List.mem_of_getElem? (i := 489) (by decide +kernel)) rfl
set_option maxRecDepth 100000 in
theorem q578 : Cond.code y_TP_end b_TP_end 2 (some .int) ∈ lwG := in_G (List.mem_of_getElem? (i := 490) rfl) rfl
theorem q579 : Cond.classLink R_La 19 "java/lang/IllegalArgumentException" ∈ lwG := in_G (List.mem_of_getElem? (i := 486) (by decide +kernel)) rfl
theorem q580 : Cond.castable "java/lang/IllegalArgumentException" "java/lang/IllegalArgumentException" ∈ lwG := in_G (List.mem_of_getElem? (i := 493) (by decide +kernel)) rfl
theorem q581 : Cond.methodLink R_La 21 y_TP_change ∈ lwG := in_G (List.mem_of_getElem? (i := 511) (by decide +kernel)) rfl
theorem q582 : Cond.instanceMethod y_TP_change ∈ lwG := in_G (List.mem_of_getElem? (i := 512) (by decide +kernel)) rfl
theorem q583 : Cond.selects R_TP y_TP_change y_TP_change ∈ lwG := in_G (List.mem_of_getElem? (i := 513) (by decide +kernel)) rfl
set_option maxRecDepth 100000 in
theorem q584 : Cond.code y_TP_change b_TP_change 3 none ∈ lwG := in_G (List.mem_of_getElem? (i := 514) rfl) rfl
theorem q585 : Cond.methodLink R_La 25 y_TP_open ∈ lwG := in_G (List.mem_of_getElem? (i := 533) (by decide +kernel)) rfl
theorem q586 : Cond.instanceMethod y_TP_open ∈ lwG := in_G (List.mem_of_getElem? (i := 534) (by decide +kernel)) rfl
theorem q587 : Cond.selects R_TP y_TP_open y_TP_open ∈ lwG := in_G (List.mem_of_getElem? (i := 535) (by decide +kernel)) rfl
set_option maxRecDepth 100000 in
theorem q588 : Cond.code y_TP_open b_TP_open 2 (some .int) ∈ lwG := in_G (List.mem_of_getElem? (i := 536) rfl) rfl
theorem q589 : Cond.classLink R_La 29 "java/lang/ArithmeticException" ∈ lwG := in_G (List.mem_of_getElem? (i := 532) (by decide +kernel)) rfl
theorem q590 : Cond.castable "java/lang/ArithmeticException" "java/lang/ArithmeticException" ∈ lwG := in_G (List.mem_of_getElem? (i := 630) (by decide +kernel)) rfl
theorem q591 : Cond.methodLink R_La 31 y_TP_turn ∈ lwG := in_G (List.mem_of_getElem? (i := 655) (by decide +kernel)) rfl
theorem q592 : Cond.instanceMethod y_TP_turn ∈ lwG := in_G (List.mem_of_getElem? (i := 656) (by decide +kernel)) rfl
theorem q593 : Cond.selects R_TP y_TP_turn y_TP_turn ∈ lwG := in_G (List.mem_of_getElem? (i := 657) (by decide +kernel)) rfl
set_option maxRecDepth 100000 in
theorem q594 : Cond.code y_TP_turn b_TP_turn 1 (some .int) ∈ lwG := in_G (List.mem_of_getElem? (i := 658) rfl) rfl
theorem q595 : Cond.methodLink R_La 34 y_TP_hash ∈ lwG := in_G (List.mem_of_getElem? (i := 667) (by decide +kernel)) rfl
theorem q596 : Cond.instanceMethod y_TP_hash ∈ lwG := in_G (List.mem_of_getElem? (i := 668) (by decide +kernel)) rfl
theorem q597 : Cond.selects R_TP y_TP_hash y_TP_hash ∈ lwG := in_G (List.mem_of_getElem? (i := 669) (by decide +kernel)) rfl
set_option maxRecDepth 100000 in
theorem q598 : Cond.code y_TP_hash b_TP_hash 2 (some .long) ∈ lwG := in_G (List.mem_of_getElem? (i := 670) rfl) rfl
theorem q599 : Cond.methodLink R_La 38 y_TP_letter ∈ lwG := in_G (List.mem_of_getElem? (i := 716) (by decide +kernel)) rfl
theorem q600 : Cond.instanceMethod y_TP_letter ∈ lwG := in_G (List.mem_of_getElem? (i := 717) (by decide +kernel)) rfl
theorem q601 : Cond.selects R_TP y_TP_letter y_TP_letter ∈ lwG := in_G (List.mem_of_getElem? (i := 718) (by decide +kernel)) rfl
set_option maxRecDepth 100000 in
theorem q602 : Cond.code y_TP_letter b_TP_letter 2 (some .int) ∈ lwG := in_G (List.mem_of_getElem? (i := 719) rfl) rfl
theorem q603 : Cond.classLink R_La 41 "java/lang/IndexOutOfBoundsException" ∈ lwG := in_G (List.mem_of_getElem? (i := 715) (by decide +kernel)) rfl
theorem q604 : Cond.castable "java/lang/IndexOutOfBoundsException" "java/lang/IndexOutOfBoundsException" ∈ lwG := in_G (List.mem_of_getElem? (i := 722) (by decide +kernel)) rfl
theorem q605 : Cond.classLink R_La 8 R_TP ∈ lwG := in_G (List.mem_of_getElem? (i := 59) (by decide +kernel)) rfl
theorem q606 : Cond.instantiable R_TP 9 ∈ lwG := in_G (List.mem_of_getElem? (i := 60) (by decide +kernel)) rfl
theorem q607 : Cond.methodLink R_La 43 y_TP_init ∈ lwG := in_G (List.mem_of_getElem? (i := 61) (by decide +kernel)) rfl
theorem q608 : Cond.instanceMethod y_TP_init ∈ lwG := in_G (List.mem_of_getElem? (i := 62) (by decide +kernel)) rfl
set_option maxRecDepth 100000 in
theorem q609 : Cond.code y_TP_init b_TP_init 1 none ∈ lwG := in_G (List.mem_of_getElem? (i := 63) rfl) rfl
theorem q610 : Cond.classLink R_La 44 R_Mo ∈ lwG := in_G (List.mem_of_getElem? (i := 736) (by decide +kernel)) rfl
theorem q611 : Cond.instantiable R_Mo 24 ∈ lwG := in_G (List.mem_of_getElem? (i := 737) (by decide +kernel)) rfl
theorem q612 : Cond.methodLink R_La 46 y_Mo_init ∈ lwG := in_G (List.mem_of_getElem? (i := 738) (by decide +kernel)) rfl
theorem q613 : Cond.instanceMethod y_Mo_init ∈ lwG := in_G (List.mem_of_getElem? (i := 739) (by decide +kernel)) rfl
set_option maxRecDepth 100000 in
theorem q614 : Cond.code y_Mo_init b_Mo_init 1 none ∈ lwG := in_G (List.mem_of_getElem? (i := 740) rfl) rfl
theorem q615 : Cond.arrayClass .long ∈ lwG := in_G (List.mem_of_getElem? (i := 976) (by decide +kernel)) rfl
theorem q616 : Cond.methodLink R_La 47 y_La_feed ∈ lwG := in_G (List.mem_of_getElem? (i := 405) (by decide +kernel)) rfl
theorem q617 : Cond.static y_La_feed ∈ lwG := in_G (List.mem_of_getElem? (i := 406) (by decide +kernel)) rfl
theorem q618 : Cond.initialized R_La ∈ lwG := in_G (List.mem_of_getElem? (i := 38) (by decide +kernel)) rfl
set_option maxRecDepth 100000 in
theorem q619 : Cond.codeWith y_La_feed b_La_feed 8 (some .int) [(0, 16, 19, 13)] ∈ lwG := in_G (List.mem_of_getElem? (i := 407) rfl) rfl
theorem q620 : Cond.methodLink R_La 52 y_Mo_feed ∈ lwG := in_G (List.mem_of_getElem? (i := 821) (by decide +kernel)) rfl
theorem q621 : Cond.instanceMethod y_Mo_feed ∈ lwG := in_G (List.mem_of_getElem? (i := 822) (by decide +kernel)) rfl
theorem q622 : Cond.selects R_Mo y_Mo_feed y_Mo_feed ∈ lwG := in_G (List.mem_of_getElem? (i := 823) (by decide +kernel)) rfl
set_option maxRecDepth 100000 in
theorem q623 : Cond.code y_Mo_feed b_Mo_feed 8 (some .int) ∈ lwG := in_G (List.mem_of_getElem? (i := 824) rfl) rfl
theorem q624 : Cond.methodLink R_La 53 y_Mo_thrown ∈ lwG := in_G (List.mem_of_getElem? (i := 817) (by decide +kernel)) rfl
theorem q625 : Cond.instanceMethod y_Mo_thrown ∈ lwG := in_G (List.mem_of_getElem? (i := 818) (by decide +kernel)) rfl
theorem q626 : Cond.selects R_Mo y_Mo_thrown y_Mo_thrown ∈ lwG := in_G (List.mem_of_getElem? (i := 819) (by decide +kernel)) rfl
set_option maxRecDepth 100000 in
theorem q627 : Cond.code y_Mo_thrown b_Mo_thrown 1 (some .int) ∈ lwG := in_G (List.mem_of_getElem? (i := 820) rfl) rfl
theorem q628 : Cond.methodLink R_La 56 y_La_end ∈ lwG := in_G (List.mem_of_getElem? (i := 483) (by decide +kernel)) rfl
theorem q629 : Cond.static y_La_end ∈ lwG := in_G (List.mem_of_getElem? (i := 484) (by decide +kernel)) rfl
set_option maxRecDepth 100000 in
theorem q630 : Cond.codeWith y_La_end b_La_end 4 (some .int) [(0, 9, 12, 19)] ∈ lwG := in_G (List.mem_of_getElem? (i := 485) rfl) rfl
theorem q631 : Cond.methodLink R_La 59 y_Mo_end ∈ lwG := in_G (List.mem_of_getElem? (i := 829) (by decide +kernel)) rfl
theorem q632 : Cond.instanceMethod y_Mo_end ∈ lwG := in_G (List.mem_of_getElem? (i := 830) (by decide +kernel)) rfl
theorem q633 : Cond.selects R_Mo y_Mo_end y_Mo_end ∈ lwG := in_G (List.mem_of_getElem? (i := 831) (by decide +kernel)) rfl
set_option maxRecDepth 100000 in
theorem q634 : Cond.code y_Mo_end b_Mo_end 2 (some .int) ∈ lwG := in_G (List.mem_of_getElem? (i := 832) rfl) rfl
theorem q635 : Cond.methodLink R_La 60 y_La_change ∈ lwG := in_G (List.mem_of_getElem? (i := 508) (by decide +kernel)) rfl
theorem q636 : Cond.static y_La_change ∈ lwG := in_G (List.mem_of_getElem? (i := 509) (by decide +kernel)) rfl
set_option maxRecDepth 100000 in
theorem q637 : Cond.codeWith y_La_change b_La_change 4 (some .int) [(0, 6, 9, 19)] ∈ lwG := in_G (List.mem_of_getElem? (i := 510) rfl) rfl
theorem q638 : Cond.methodLink R_La 63 y_Mo_change ∈ lwG := in_G (List.mem_of_getElem? (i := 833) (by decide +kernel)) rfl
theorem q639 : Cond.instanceMethod y_Mo_change ∈ lwG := in_G (List.mem_of_getElem? (i := 834) (by decide +kernel)) rfl
theorem q640 : Cond.selects R_Mo y_Mo_change y_Mo_change ∈ lwG := in_G (List.mem_of_getElem? (i := 835) (by decide +kernel)) rfl
set_option maxRecDepth 100000 in
theorem q641 : Cond.code y_Mo_change b_Mo_change 3 none ∈ lwG := in_G (List.mem_of_getElem? (i := 836) rfl) rfl
theorem q642 : Cond.methodLink R_La 64 y_TP_press ∈ lwG := in_G (List.mem_of_getElem? (i := 256) (by decide +kernel)) rfl
theorem q643 : Cond.instanceMethod y_TP_press ∈ lwG := in_G (List.mem_of_getElem? (i := 257) (by decide +kernel)) rfl
theorem q644 : Cond.selects R_TP y_TP_press y_TP_press ∈ lwG := in_G (List.mem_of_getElem? (i := 258) (by decide +kernel)) rfl
set_option maxRecDepth 100000 in
theorem q645 : Cond.code y_TP_press b_TP_press 1 (some .int) ∈ lwG := in_G (List.mem_of_getElem? (i := 259) rfl) rfl
theorem q646 : Cond.methodLink R_La 67 y_Mo_press ∈ lwG := in_G (List.mem_of_getElem? (i := 837) (by decide +kernel)) rfl
theorem q647 : Cond.instanceMethod y_Mo_press ∈ lwG := in_G (List.mem_of_getElem? (i := 838) (by decide +kernel)) rfl
theorem q648 : Cond.selects R_Mo y_Mo_press y_Mo_press ∈ lwG := in_G (List.mem_of_getElem? (i := 839) (by decide +kernel)) rfl
set_option maxRecDepth 100000 in
theorem q649 : Cond.code y_Mo_press b_Mo_press 6 (some .int) ∈ lwG := in_G (List.mem_of_getElem? (i := 840) rfl) rfl
theorem q650 : Cond.methodLink R_La 68 y_La_open ∈ lwG := in_G (List.mem_of_getElem? (i := 529) (by decide +kernel)) rfl
theorem q651 : Cond.static y_La_open ∈ lwG := in_G (List.mem_of_getElem? (i := 530) (by decide +kernel)) rfl
set_option maxRecDepth 100000 in
theorem q652 : Cond.codeWith y_La_open b_La_open 3 (some .int) [(0, 8, 11, 29)] ∈ lwG := in_G (List.mem_of_getElem? (i := 531) rfl) rfl
theorem q653 : Cond.methodLink R_La 71 y_Mo_open ∈ lwG := in_G (List.mem_of_getElem? (i := 883) (by decide +kernel)) rfl
theorem q654 : Cond.instanceMethod y_Mo_open ∈ lwG := in_G (List.mem_of_getElem? (i := 884) (by decide +kernel)) rfl
theorem q655 : Cond.selects R_Mo y_Mo_open y_Mo_open ∈ lwG := in_G (List.mem_of_getElem? (i := 885) (by decide +kernel)) rfl
set_option maxRecDepth 100000 in
theorem q656 : Cond.code y_Mo_open b_Mo_open 6 (some .int) ∈ lwG := in_G (List.mem_of_getElem? (i := 886) rfl) rfl
theorem q657 : Cond.methodLink R_La 72 y_La_turn ∈ lwG := in_G (List.mem_of_getElem? (i := 652) (by decide +kernel)) rfl
theorem q658 : Cond.static y_La_turn ∈ lwG := in_G (List.mem_of_getElem? (i := 653) (by decide +kernel)) rfl
set_option maxRecDepth 100000 in
theorem q659 : Cond.codeWith y_La_turn b_La_turn 3 (some .int) [(0, 8, 11, 13)] ∈ lwG := in_G (List.mem_of_getElem? (i := 654) rfl) rfl
theorem q660 : Cond.methodLink R_La 74 y_Mo_turn ∈ lwG := in_G (List.mem_of_getElem? (i := 939) (by decide +kernel)) rfl
theorem q661 : Cond.instanceMethod y_Mo_turn ∈ lwG := in_G (List.mem_of_getElem? (i := 940) (by decide +kernel)) rfl
theorem q662 : Cond.selects R_Mo y_Mo_turn y_Mo_turn ∈ lwG := in_G (List.mem_of_getElem? (i := 941) (by decide +kernel)) rfl
set_option maxRecDepth 100000 in
theorem q663 : Cond.code y_Mo_turn b_Mo_turn 2 (some .int) ∈ lwG := in_G (List.mem_of_getElem? (i := 942) rfl) rfl
theorem q664 : Cond.methodLink R_La 75 y_La_hash ∈ lwG := in_G (List.mem_of_getElem? (i := 664) (by decide +kernel)) rfl
theorem q665 : Cond.static y_La_hash ∈ lwG := in_G (List.mem_of_getElem? (i := 665) (by decide +kernel)) rfl
set_option maxRecDepth 100000 in
theorem q666 : Cond.codeWith y_La_hash b_La_hash 4 (some .int) [(0, 8, 11, 19)] ∈ lwG := in_G (List.mem_of_getElem? (i := 666) rfl) rfl
theorem q667 : Cond.methodLink R_La 77 y_Mo_hash ∈ lwG := in_G (List.mem_of_getElem? (i := 943) (by decide +kernel)) rfl
theorem q668 : Cond.instanceMethod y_Mo_hash ∈ lwG := in_G (List.mem_of_getElem? (i := 944) (by decide +kernel)) rfl
theorem q669 : Cond.selects R_Mo y_Mo_hash y_Mo_hash ∈ lwG := in_G (List.mem_of_getElem? (i := 945) (by decide +kernel)) rfl
set_option maxRecDepth 100000 in
theorem q670 : Cond.code y_Mo_hash b_Mo_hash 5 (some .long) ∈ lwG := in_G (List.mem_of_getElem? (i := 946) rfl) rfl
theorem q671 : Cond.methodLink R_La 78 y_La_letter ∈ lwG := in_G (List.mem_of_getElem? (i := 712) (by decide +kernel)) rfl
theorem q672 : Cond.static y_La_letter ∈ lwG := in_G (List.mem_of_getElem? (i := 713) (by decide +kernel)) rfl
set_option maxRecDepth 100000 in
theorem q673 : Cond.codeWith y_La_letter b_La_letter 4 (some .int) [(0, 9, 12, 41)] ∈ lwG := in_G (List.mem_of_getElem? (i := 714) rfl) rfl
theorem q674 : Cond.methodLink R_La 80 y_Mo_letter ∈ lwG := in_G (List.mem_of_getElem? (i := 968) (by decide +kernel)) rfl
theorem q675 : Cond.instanceMethod y_Mo_letter ∈ lwG := in_G (List.mem_of_getElem? (i := 969) (by decide +kernel)) rfl
theorem q676 : Cond.selects R_Mo y_Mo_letter y_Mo_letter ∈ lwG := in_G (List.mem_of_getElem? (i := 970) (by decide +kernel)) rfl
set_option maxRecDepth 100000 in
theorem q677 : Cond.code y_Mo_letter b_Mo_letter 2 (some .int) ∈ lwG := in_G (List.mem_of_getElem? (i := 971) rfl) rfl
theorem q678 : Cond.methodLink R_La 81 y_TP_count ∈ lwG := in_G (List.mem_of_getElem? (i := 393) (by decide +kernel)) rfl
theorem q679 : Cond.instanceMethod y_TP_count ∈ lwG := in_G (List.mem_of_getElem? (i := 394) (by decide +kernel)) rfl
theorem q680 : Cond.selects R_TP y_TP_count y_TP_count ∈ lwG := in_G (List.mem_of_getElem? (i := 395) (by decide +kernel)) rfl
set_option maxRecDepth 100000 in
theorem q681 : Cond.code y_TP_count b_TP_count 2 (some .int) ∈ lwG := in_G (List.mem_of_getElem? (i := 396) rfl) rfl
theorem q682 : Cond.methodLink R_La 84 y_Mo_count ∈ lwG := in_G (List.mem_of_getElem? (i := 972) (by decide +kernel)) rfl
theorem q683 : Cond.instanceMethod y_Mo_count ∈ lwG := in_G (List.mem_of_getElem? (i := 973) (by decide +kernel)) rfl
theorem q684 : Cond.selects R_Mo y_Mo_count y_Mo_count ∈ lwG := in_G (List.mem_of_getElem? (i := 974) (by decide +kernel)) rfl
set_option maxRecDepth 100000 in
theorem q685 : Cond.code y_Mo_count b_Mo_count 2 (some .int) ∈ lwG := in_G (List.mem_of_getElem? (i := 975) rfl) rfl
