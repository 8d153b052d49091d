/-! THE THROWS' WORDS -/
def zcls : List (Nat × String) := [(100, "java/lang/IllegalStateException"), (78, "java/lang/IndexOutOfBoundsException"), (140, "java/lang/IllegalArgumentException")]
def zthr (ic : Nat) (cls : String) : List Jvm.Cond := vx_atS "Macrocosm" ic cls zchn
def zthrchk (r : Nat × String) : Bool := Bundle.fit r.2 && ((zthr r.1 r.2).all (fun w => vx_ot w && (if goodWord w then decide (w ∈ lw_tbl) else decide (w ∈ zFw))) && (decide (Jvm.Cond.initialized r.2 ∈ lw_tbl) && goodWord (Jvm.Cond.initialized r.2)))
set_option maxRecDepth 100000 in
theorem zthr_0 : zthrchk (100, "java/lang/IllegalStateException") = true := by decide +kernel
set_option maxRecDepth 100000 in
theorem zthr_1 : zthrchk (78, "java/lang/IndexOutOfBoundsException") = true := by decide +kernel
set_option maxRecDepth 100000 in
theorem zthr_2 : zthrchk (140, "java/lang/IllegalArgumentException") = true := by decide +kernel
theorem zchn_fit : ∀ n ∈ zchn, Bundle.fit n = true := by decide +kernel
