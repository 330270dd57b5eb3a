/-- the reference as it begins -/
def sM0 : St := fun i j => if i = 0 then (if j = 30 then -9 else if j = 31 then -9 else 0) else 0
/-- the class as it begins -/
def sS0 : St := fun _ _ => 0
