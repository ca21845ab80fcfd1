-- THE MEMORY of the little machine (ints and longs, by cell and place), and the words of the pure functions
abbrev am_G : Type := (Nat → Nat → Int32) × (Nat → Nat → Int64)
def am_ext : Nat := 1000000
def am_in (i : Int32) (n : Nat) : Bool := !(decide (i < 0) || decide (n ≤ i.toNatClampNeg))
def am_wr (g : am_G) (a k : Nat) (v : Int32) : am_G := (fun a' k' => if a' = a ∧ k' = k then v else g.1 a' k', g.2)
def am_wL (g : am_G) (a k : Nat) (v : Int64) : am_G := (g.1, fun a' k' => if a' = a ∧ k' = k then v else g.2 a' k')
def am_z (g : am_G) (a : Nat) : am_G := (fun a' k' => if a' = a then 0 else g.1 a' k', fun a' k' => if a' = a then 0 else g.2 a' k')
def am_cp (g : am_G) (a b sp dp n : Nat) : am_G := (fun a' k' => if a' = b ∧ dp ≤ k' ∧ k' < dp + n then g.1 a (sp + (k' - dp)) else g.1 a' k', g.2)
abbrev am_b (q : Bool) : Int32 := if q = true then 1 else 0
abbrev am_mx (x y : Int32) : Int32 := if x < y then y else x
abbrev am_mn (x y : Int32) : Int32 := if y < x then y else x
/-- enough turns for every loop -/
def am_fuel : Nat := 1000000
