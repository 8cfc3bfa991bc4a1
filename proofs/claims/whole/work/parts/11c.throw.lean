/-! The six methods that throw: what their words are -/
def nse : String := "java/util/NoSuchElementException"
def nseUp : List String := ["java/lang/RuntimeException", "java/lang/Exception"]
def tW : List Cond := Cond.classLink "SharedAir" 98 nse :: Cond.initialized nse :: vx_at0 "SharedAir" 100 nse nseUp
theorem tW_ot : tW.all vx_ot = true := by decide +kernel
theorem tW_in : tW.all (fun w => lw_tbl.contains w) = true := by decide +kernel
theorem nse_fit : Bundle.fit nse = true := by decide +kernel
theorem nseUp_fit : nseUp.all Bundle.fit = true := by decide +kernel
/-- what a throw wants besides -/
def mTh (A : Nat → Prop) (U : State) (H : Heap) : Prop := (∀ w ∈ tW, goodWord w = false → va_Nw w U) ∧ vx_Zq Bundle.tN "UNASSIGNED_STACK" Bundle.steD A U H ∧ vx_Zq Bundle.tN "SUPPRESSED_SENTINEL" Bundle.listD A U H
