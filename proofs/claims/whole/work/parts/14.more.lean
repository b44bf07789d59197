theorem Ty.put2 {R : Rf} {a k b ci t : Nat} (h : Ty R) (hk : kd a = ci) (hr : rk ci k = t) (hb : kd b = t) : Ty (up2 R a k b) := h.put (Or.inr (by rw [hk, hr, hb]))
