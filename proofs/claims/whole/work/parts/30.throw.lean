/-! throws: words, premises -/
abbrev eN1 : String := "java/lang/NegativeArraySizeException"
abbrev eA1 : String := "java/lang/ArrayIndexOutOfBoundsException"
abbrev eR1 : String := "java/lang/ArithmeticException"
abbrev eP1 : String := "java/lang/NullPointerException"
abbrev nR2 : List String := ["java/lang/RuntimeException", "java/lang/Exception"]
abbrev nR3 : List String := ["java/lang/IndexOutOfBoundsException", "java/lang/RuntimeException", "java/lang/Exception"]
abbrev dS (n : String) : Cond := .declares ⟨n, "<init>", "(Ljava/lang/String;)V"⟩
def xW_N : List Cond := (vx_atS RX5 61 eN1 nR2).filter goodWord
def xW_A : List Cond := (vx_atS RX5 79 eA1 nR3).filter goodWord
def xW_R : List Cond := (vx_atS RX5 179 eR1 nR2).filter goodWord
def xW_P : List Cond := ((tn_at RX5 91).filter vx_no).filter goodWord
def lw_X : List Cond := xW_N ++ (xW_A ++ (xW_R ++ xW_P))
def lw_H : List Cond := lw_X ++ lw_G
theorem x_no_N : (vx_atS RX5 61 eN1 nR2).filter (fun w => !goodWord w) = [dS "java/lang/RuntimeException", dS "java/lang/Exception", dS "java/lang/Throwable", .castable eN1 eN1] := by decide +kernel
theorem x_no_A : (vx_atS RX5 79 eA1 nR3).filter (fun w => !goodWord w) = [dS "java/lang/IndexOutOfBoundsException", dS "java/lang/RuntimeException", dS "java/lang/Exception", dS "java/lang/Throwable", .castable eA1 eA1] := by decide +kernel
theorem x_no_R : (vx_atS RX5 179 eR1 nR2).filter (fun w => !goodWord w) = [dS "java/lang/RuntimeException", dS "java/lang/Exception", dS "java/lang/Throwable", .castable eR1 eR1] := by decide +kernel
theorem x_no_P : ((tn_at RX5 91).filter vx_no).filter (fun w => !goodWord w) = [dS "java/lang/RuntimeException", dS "java/lang/Exception", dS "java/lang/Throwable", .castable "java/lang/RuntimeException" "java/lang/Throwable", .castable eP1 eP1] := by decide +kernel
theorem x_tb_P : ∀ w ∈ xW_P, w ∈ lw_tbl := by decide +kernel
theorem x_ot_P : ∀ w ∈ Cond.classLink RX5 87 eP1 :: Cond.initialized eP1 :: (tn_at RX5 91).filter vx_no, vx_ot w = true := by decide +kernel
theorem x_tb_N : ∀ w ∈ xW_N, w ∈ lw_tbl := by decide +kernel
theorem x_tb_A : ∀ w ∈ xW_A, w ∈ lw_tbl := by decide +kernel
theorem x_tb_R : ∀ w ∈ xW_R, w ∈ lw_tbl := by decide +kernel
theorem x_ot_N : ∀ w ∈ Cond.classLink RX5 57 eN1 :: Cond.initialized eN1 :: vx_atS RX5 61 eN1 nR2, vx_ot w = true := by decide +kernel
theorem x_ot_A : ∀ w ∈ Cond.classLink RX5 75 eA1 :: Cond.initialized eA1 :: vx_atS RX5 79 eA1 nR3, vx_ot w = true := by decide +kernel
theorem x_ot_R : ∀ w ∈ Cond.classLink RX5 175 eR1 :: Cond.initialized eR1 :: vx_atS RX5 179 eR1 nR2, vx_ot w = true := by decide +kernel
theorem x_gd : ∀ w ∈ lw_X, goodWord w = true := by decide +kernel
