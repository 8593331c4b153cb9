/-! THE LAW's look: the words of the two throws -/
abbrev xI : String := "java/lang/IndexOutOfBoundsException"
abbrev xN : String := "java/util/NoSuchElementException"
abbrev xSup : List String := ["java/lang/RuntimeException", "java/lang/Exception"]
def atI : List Cond := vx_atS RX11 112 xI xSup
def atN : List Cond := vx_atS RX11 119 xN xSup
