def fuelG : Nat := 200
def fuelP : Nat := 8
def fuelW : Nat := 4097
def fuelN : Nat := 8
def fuelC : Nat := 8
def fuelT : Nat := 100
