theorem Ty.put2 {g : Gl} {R : Rf} {a k b ci t : Nat} (h : Ty g R) (hk : kd g a = ci) (hr : rk ci k = t) (hb : kd g b = t) : Ty g (up2 R a k b) := h.put (Or.inr (by rw [hk, hr, hb]))
