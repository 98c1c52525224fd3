/-! public methods that throw: contracts (written by program: wip/whole/mkpub.py) -/
def am_roX (n : Nat) : Room := { frames := n, cells := 1, slots := 6, locals := 40 * n }
def thN : List String := ["java/lang/RuntimeException", "java/lang/Exception"]
theorem thn : ∀ n ∈ thN, Bundle.fit n = true := by decide +kernel
theorem thw_54_58 : ∀ w ∈ Cond.classLink RX11 54 "java/lang/IllegalArgumentException" :: Cond.initialized "java/lang/IllegalArgumentException" :: vx_atS RX11 58 "java/lang/IllegalArgumentException" thN, w ∈ tables_1 := by decide +kernel
theorem thg_54_58 : ∀ w ∈ Cond.classLink RX11 54 "java/lang/IllegalArgumentException" :: Cond.initialized "java/lang/IllegalArgumentException" :: vx_atS RX11 58 "java/lang/IllegalArgumentException" thN, vx_ot w = true := by decide +kernel
theorem thw_65_69 : ∀ w ∈ Cond.classLink RX11 65 "java/lang/IllegalStateException" :: Cond.initialized "java/lang/IllegalStateException" :: vx_atS RX11 69 "java/lang/IllegalStateException" thN, w ∈ tables_1 := by decide +kernel
theorem thg_65_69 : ∀ w ∈ Cond.classLink RX11 65 "java/lang/IllegalStateException" :: Cond.initialized "java/lang/IllegalStateException" :: vx_atS RX11 69 "java/lang/IllegalStateException" thN, vx_ot w = true := by decide +kernel
theorem thw_93_97 : ∀ w ∈ Cond.classLink RX11 93 "java/lang/IndexOutOfBoundsException" :: Cond.initialized "java/lang/IndexOutOfBoundsException" :: vx_atS RX11 97 "java/lang/IndexOutOfBoundsException" thN, w ∈ tables_1 := by decide +kernel
theorem thg_93_97 : ∀ w ∈ Cond.classLink RX11 93 "java/lang/IndexOutOfBoundsException" :: Cond.initialized "java/lang/IndexOutOfBoundsException" :: vx_atS RX11 97 "java/lang/IndexOutOfBoundsException" thN, vx_ot w = true := by decide +kernel
