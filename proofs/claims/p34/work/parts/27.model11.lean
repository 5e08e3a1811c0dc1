/-! THE REFERENCE's public methods: what is thrown -/
def thr (M : xm_M) (y : Int32) : xm_M := xm_setI M 278 0 y
theorem mR.thr {M : xm_M} (h : mR M) (y : Int32) : mR (thr M y) := h
