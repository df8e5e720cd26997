def RJI : String := "java/lang/Integer"
abbrev cJI_bitCount : ByteArray := prog_20_method_49_code
def yJI_bitCount : MethodName := ⟨RJI, "bitCount", "(I)I"⟩
