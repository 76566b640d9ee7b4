/-! the model's methods that change it: single steps -/
section PZU
variable {sc : pz_S} {sq : pz_Q} {pa : pz_P} {ri : pz_N} {mp : pz_N} {ca : pz_P} {dr : pz_N} {pe : pz_Q} {w0 w : pw_W} {K : pw_W → Int32 → Prop} {X : pw_W → Nat → Prop} {x y z t v : Int32} {s r c d l : Nat}
/-- a square comes to a parcel -/
noncomputable def pz_cm (sq : pz_Q) (s : Nat) (x : Int32) : pz_Q := @ite _ (sq.1 8 s = x) (Classical.propDecidable _) sq (pz_u (pz_u sq.1 8 s x) 14 s (sq.1 14 s + 1), pz_u sq.2 s (pw_i (sq.1 14 s)) x)
def pz_mk (pa : pz_P) (x : Int32) : pz_P := (pa.1 + 1, pz_u (pz_u (pz_u pa.2.1 16 pa.1 x) 17 pa.1 (-1)) 46 pa.1 (nI pa.1), pa.2.2)
theorem pz_m46 (h : pz_m sc sq pa ri mp ca dr pe w0 w) {i : Nat} : pz_m sc sq (pa.1, pz_u pa.2.1 46 i v, pa.2.2) ri mp ca dr pe w0 w := h
def pz_mr' (ri : pz_N) (a b c d e : Int32) : pz_N := (ri.1 + 1, pz_u (pz_u (pz_u (pz_u (pz_u (pz_u ri.2 20 ri.1 a) 21 ri.1 b) 22 ri.1 c) 23 ri.1 d) 24 ri.1 e) 25 ri.1 0)
end PZU
