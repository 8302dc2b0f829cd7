def sX9_statement_q_10 (textSize : Int32) (start : Int32) (next : Int32) (token : Int32) (value : Int32) (error : Int32) (errorAt : Int32) (seen : Int32) (text : Nat → Int32) (told : Nat → Int32) (q_10 : Int32 × Int32) : Int32 × Int32 × Int32 × Int32 × Int32 × Int32 × Int32 × Int32 × (Nat → Int32) :=
  (0, q_10.1, q_10.2, start, next, token, value, seen, told)
def sX9_statement_q_20 (textSize : Int32) (start : Int32) (next : Int32) (token : Int32) (value : Int32) (error : Int32) (errorAt : Int32) (seen : Int32) (text : Nat → Int32) (told : Nat → Int32) (q_11 : Int32 × Int32 × Int32 × Int32 × Int32 × Int32 × Int32 × Int32) (q_14 : Int32 × Int32 × Int32 × Int32 × Int32 × Int32 × Int32 × (Nat → Int32)) (q_17 : Int32 × Int32 × Int32 × Int32 × Int32 × Int32 × Int32 × (Nat → Int32)) (q_20 : Int32 × Int32 × Int32 × Int32 × Int32 × Int32 × Int32 × (Nat → Int32)) : Int32 × Int32 × Int32 × Int32 × Int32 × Int32 × Int32 × Int32 × (Nat → Int32) :=
  if q_20.1 = 0 then
    (0, q_20.2.1, q_20.2.2.1, q_20.2.2.2.1, q_20.2.2.2.2.1, q_20.2.2.2.2.2.1, q_20.2.2.2.2.2.2.1, q_11.2.2.2.2.2.2.2, q_20.2.2.2.2.2.2.2)
  else
    (1, q_20.2.1, q_20.2.2.1, q_20.2.2.2.1, q_20.2.2.2.2.1, q_20.2.2.2.2.2.1, q_20.2.2.2.2.2.2.1, q_11.2.2.2.2.2.2.2, q_20.2.2.2.2.2.2.2)
def sX9_statement_q_17 (textSize : Int32) (start : Int32) (next : Int32) (token : Int32) (value : Int32) (error : Int32) (errorAt : Int32) (seen : Int32) (text : Nat → Int32) (told : Nat → Int32) (q_11 : Int32 × Int32 × Int32 × Int32 × Int32 × Int32 × Int32 × Int32) (q_14 : Int32 × Int32 × Int32 × Int32 × Int32 × Int32 × Int32 × (Nat → Int32)) (q_17 : Int32 × Int32 × Int32 × Int32 × Int32 × Int32 × Int32 × (Nat → Int32)) : Int32 × Int32 × Int32 × Int32 × Int32 × Int32 × Int32 × Int32 × (Nat → Int32) :=
  if q_17.1 = 0 then
    (0, q_17.2.1, q_17.2.2.1, q_17.2.2.2.1, q_17.2.2.2.2.1, q_17.2.2.2.2.2.1, q_17.2.2.2.2.2.2.1, q_11.2.2.2.2.2.2.2, q_17.2.2.2.2.2.2.2)
  else
    sX9_statement_q_20 textSize start next token value error errorAt seen text told q_11 q_14 q_17 (sX9_sets textSize q_17.2.2.2.1 q_17.2.2.2.2.1 q_17.2.2.2.2.2.1 q_17.2.2.2.2.2.2.1 q_17.2.1 q_17.2.2.1 text q_17.2.2.2.2.2.2.2 23 0 999)
def sX9_statement_q_14 (textSize : Int32) (start : Int32) (next : Int32) (token : Int32) (value : Int32) (error : Int32) (errorAt : Int32) (seen : Int32) (text : Nat → Int32) (told : Nat → Int32) (q_11 : Int32 × Int32 × Int32 × Int32 × Int32 × Int32 × Int32 × Int32) (q_14 : Int32 × Int32 × Int32 × Int32 × Int32 × Int32 × Int32 × (Nat → Int32)) : Int32 × Int32 × Int32 × Int32 × Int32 × Int32 × Int32 × Int32 × (Nat → Int32) :=
  if q_14.1 = 0 then
    (0, q_14.2.1, q_14.2.2.1, q_14.2.2.2.1, q_14.2.2.2.2.1, q_14.2.2.2.2.2.1, q_14.2.2.2.2.2.2.1, q_11.2.2.2.2.2.2.2, q_14.2.2.2.2.2.2.2)
  else
    sX9_statement_q_17 textSize start next token value error errorAt seen text told q_11 q_14 (sX9_sets textSize q_14.2.2.2.1 q_14.2.2.2.2.1 q_14.2.2.2.2.2.1 q_14.2.2.2.2.2.2.1 q_14.2.1 q_14.2.2.1 text q_14.2.2.2.2.2.2.2 22 1 200)
def sX9_statement_q_11 (textSize : Int32) (start : Int32) (next : Int32) (token : Int32) (value : Int32) (error : Int32) (errorAt : Int32) (seen : Int32) (text : Nat → Int32) (told : Nat → Int32) (q_11 : Int32 × Int32 × Int32 × Int32 × Int32 × Int32 × Int32 × Int32) : Int32 × Int32 × Int32 × Int32 × Int32 × Int32 × Int32 × Int32 × (Nat → Int32) :=
  if q_11.1 = 0 then
    (0, q_11.2.1, q_11.2.2.1, q_11.2.2.2.1, q_11.2.2.2.2.1, q_11.2.2.2.2.2.1, q_11.2.2.2.2.2.2.1, q_11.2.2.2.2.2.2.2, told)
  else
    sX9_statement_q_14 textSize start next token value error errorAt seen text told q_11 (sX9_sets textSize q_11.2.2.2.1 q_11.2.2.2.2.1 q_11.2.2.2.2.2.1 q_11.2.2.2.2.2.2.1 q_11.2.1 q_11.2.2.1 text told 21 1 20)
def sX9_statement_q_29 (textSize : Int32) (start : Int32) (next : Int32) (token : Int32) (value : Int32) (error : Int32) (errorAt : Int32) (seen : Int32) (text : Nat → Int32) (told : Nat → Int32) (q_23 : Int32 × Int32 × Int32 × Int32 × Int32 × Int32 × Int32 × Int32) (q_26 : Int32 × Int32 × Int32 × Int32 × Int32 × Int32 × Int32 × (Nat → Int32)) (q_29 : Int32 × Int32 × Int32 × Int32 × Int32 × Int32 × Int32 × (Nat → Int32)) : Int32 × Int32 × Int32 × Int32 × Int32 × Int32 × Int32 × Int32 × (Nat → Int32) :=
  if q_29.1 = 0 then
    (0, q_29.2.1, q_29.2.2.1, q_29.2.2.2.1, q_29.2.2.2.2.1, q_29.2.2.2.2.2.1, q_29.2.2.2.2.2.2.1, q_23.2.2.2.2.2.2.2, q_29.2.2.2.2.2.2.2)
  else
    (1, q_29.2.1, q_29.2.2.1, q_29.2.2.2.1, q_29.2.2.2.2.1, q_29.2.2.2.2.2.1, q_29.2.2.2.2.2.2.1, q_23.2.2.2.2.2.2.2, q_29.2.2.2.2.2.2.2)
def sX9_statement_q_26 (textSize : Int32) (start : Int32) (next : Int32) (token : Int32) (value : Int32) (error : Int32) (errorAt : Int32) (seen : Int32) (text : Nat → Int32) (told : Nat → Int32) (q_23 : Int32 × Int32 × Int32 × Int32 × Int32 × Int32 × Int32 × Int32) (q_26 : Int32 × Int32 × Int32 × Int32 × Int32 × Int32 × Int32 × (Nat → Int32)) : Int32 × Int32 × Int32 × Int32 × Int32 × Int32 × Int32 × Int32 × (Nat → Int32) :=
  if q_26.1 = 0 then
    (0, q_26.2.1, q_26.2.2.1, q_26.2.2.2.1, q_26.2.2.2.2.1, q_26.2.2.2.2.2.1, q_26.2.2.2.2.2.2.1, q_23.2.2.2.2.2.2.2, q_26.2.2.2.2.2.2.2)
  else
    sX9_statement_q_29 textSize start next token value error errorAt seen text told q_23 q_26 (sX9_sets textSize q_26.2.2.2.1 q_26.2.2.2.2.1 q_26.2.2.2.2.2.1 q_26.2.2.2.2.2.2.1 q_26.2.1 q_26.2.2.1 text q_26.2.2.2.2.2.2.2 20 1 9999)
def sX9_statement_q_23 (textSize : Int32) (start : Int32) (next : Int32) (token : Int32) (value : Int32) (error : Int32) (errorAt : Int32) (seen : Int32) (text : Nat → Int32) (told : Nat → Int32) (q_23 : Int32 × Int32 × Int32 × Int32 × Int32 × Int32 × Int32 × Int32) : Int32 × Int32 × Int32 × Int32 × Int32 × Int32 × Int32 × Int32 × (Nat → Int32) :=
  if q_23.1 = 0 then
    (0, q_23.2.1, q_23.2.2.1, q_23.2.2.2.1, q_23.2.2.2.2.1, q_23.2.2.2.2.2.1, q_23.2.2.2.2.2.2.1, q_23.2.2.2.2.2.2.2, told)
  else
    sX9_statement_q_26 textSize start next token value error errorAt seen text told q_23 (sX9_sets textSize q_23.2.2.2.1 q_23.2.2.2.2.1 q_23.2.2.2.2.2.1 q_23.2.2.2.2.2.2.1 q_23.2.1 q_23.2.2.1 text told 19 1 2000)
def sX9_statement_q_44 (textSize : Int32) (start : Int32) (next : Int32) (token : Int32) (value : Int32) (error : Int32) (errorAt : Int32) (seen : Int32) (text : Nat → Int32) (told : Nat → Int32) (q_32 : Int32 × Int32 × Int32 × Int32 × Int32 × Int32 × Int32 × Int32) (q_35 : Int32 × Int32 × Int32 × Int32 × Int32 × Int32 × Int32 × (Nat → Int32)) (q_38 : Int32 × Int32 × Int32 × Int32 × Int32 × Int32 × Int32 × (Nat → Int32)) (q_41 : Int32 × Int32 × Int32 × Int32 × Int32 × Int32 × Int32 × (Nat → Int32)) (q_44 : Int32 × Int32 × Int32 × Int32 × Int32 × Int32 × Int32 × (Nat → Int32)) : Int32 × Int32 × Int32 × Int32 × Int32 × Int32 × Int32 × Int32 × (Nat → Int32) :=
  if q_44.1 = 0 then
    (0, q_44.2.1, q_44.2.2.1, q_44.2.2.2.1, q_44.2.2.2.2.1, q_44.2.2.2.2.2.1, q_44.2.2.2.2.2.2.1, q_32.2.2.2.2.2.2.2, q_44.2.2.2.2.2.2.2)
  else
    (1, q_44.2.1, q_44.2.2.1, q_44.2.2.2.1, q_44.2.2.2.2.1, q_44.2.2.2.2.2.1, q_44.2.2.2.2.2.2.1, q_32.2.2.2.2.2.2.2, q_44.2.2.2.2.2.2.2)
def sX9_statement_q_41 (textSize : Int32) (start : Int32) (next : Int32) (token : Int32) (value : Int32) (error : Int32) (errorAt : Int32) (seen : Int32) (text : Nat → Int32) (told : Nat → Int32) (q_32 : Int32 × Int32 × Int32 × Int32 × Int32 × Int32 × Int32 × Int32) (q_35 : Int32 × Int32 × Int32 × Int32 × Int32 × Int32 × Int32 × (Nat → Int32)) (q_38 : Int32 × Int32 × Int32 × Int32 × Int32 × Int32 × Int32 × (Nat → Int32)) (q_41 : Int32 × Int32 × Int32 × Int32 × Int32 × Int32 × Int32 × (Nat → Int32)) : Int32 × Int32 × Int32 × Int32 × Int32 × Int32 × Int32 × Int32 × (Nat → Int32) :=
  if q_41.1 = 0 then
    (0, q_41.2.1, q_41.2.2.1, q_41.2.2.2.1, q_41.2.2.2.2.1, q_41.2.2.2.2.2.1, q_41.2.2.2.2.2.2.1, q_32.2.2.2.2.2.2.2, q_41.2.2.2.2.2.2.2)
  else
    sX9_statement_q_44 textSize start next token value error errorAt seen text told q_32 q_35 q_38 q_41 (sX9_sets textSize q_41.2.2.2.1 q_41.2.2.2.2.1 q_41.2.2.2.2.2.1 q_41.2.2.2.2.2.2.1 q_41.2.1 q_41.2.2.1 text q_41.2.2.2.2.2.2.2 18 1 200)
def sX9_statement_q_38 (textSize : Int32) (start : Int32) (next : Int32) (token : Int32) (value : Int32) (error : Int32) (errorAt : Int32) (seen : Int32) (text : Nat → Int32) (told : Nat → Int32) (q_32 : Int32 × Int32 × Int32 × Int32 × Int32 × Int32 × Int32 × Int32) (q_35 : Int32 × Int32 × Int32 × Int32 × Int32 × Int32 × Int32 × (Nat → Int32)) (q_38 : Int32 × Int32 × Int32 × Int32 × Int32 × Int32 × Int32 × (Nat → Int32)) : Int32 × Int32 × Int32 × Int32 × Int32 × Int32 × Int32 × Int32 × (Nat → Int32) :=
  if q_38.1 = 0 then
    (0, q_38.2.1, q_38.2.2.1, q_38.2.2.2.1, q_38.2.2.2.2.1, q_38.2.2.2.2.2.1, q_38.2.2.2.2.2.2.1, q_32.2.2.2.2.2.2.2, q_38.2.2.2.2.2.2.2)
  else
    sX9_statement_q_41 textSize start next token value error errorAt seen text told q_32 q_35 q_38 (sX9_sets textSize q_38.2.2.2.1 q_38.2.2.2.2.1 q_38.2.2.2.2.2.1 q_38.2.2.2.2.2.2.1 q_38.2.1 q_38.2.2.1 text q_38.2.2.2.2.2.2.2 17 0 3)
def sX9_statement_q_35 (textSize : Int32) (start : Int32) (next : Int32) (token : Int32) (value : Int32) (error : Int32) (errorAt : Int32) (seen : Int32) (text : Nat → Int32) (told : Nat → Int32) (q_32 : Int32 × Int32 × Int32 × Int32 × Int32 × Int32 × Int32 × Int32) (q_35 : Int32 × Int32 × Int32 × Int32 × Int32 × Int32 × Int32 × (Nat → Int32)) : Int32 × Int32 × Int32 × Int32 × Int32 × Int32 × Int32 × Int32 × (Nat → Int32) :=
  if q_35.1 = 0 then
    (0, q_35.2.1, q_35.2.2.1, q_35.2.2.2.1, q_35.2.2.2.2.1, q_35.2.2.2.2.2.1, q_35.2.2.2.2.2.2.1, q_32.2.2.2.2.2.2.2, q_35.2.2.2.2.2.2.2)
  else
    sX9_statement_q_38 textSize start next token value error errorAt seen text told q_32 q_35 (sX9_sets textSize q_35.2.2.2.1 q_35.2.2.2.2.1 q_35.2.2.2.2.2.1 q_35.2.2.2.2.2.2.1 q_35.2.1 q_35.2.2.1 text q_35.2.2.2.2.2.2.2 16 1 500)
def sX9_statement_q_32 (textSize : Int32) (start : Int32) (next : Int32) (token : Int32) (value : Int32) (error : Int32) (errorAt : Int32) (seen : Int32) (text : Nat → Int32) (told : Nat → Int32) (q_32 : Int32 × Int32 × Int32 × Int32 × Int32 × Int32 × Int32 × Int32) : Int32 × Int32 × Int32 × Int32 × Int32 × Int32 × Int32 × Int32 × (Nat → Int32) :=
  if q_32.1 = 0 then
    (0, q_32.2.1, q_32.2.2.1, q_32.2.2.2.1, q_32.2.2.2.2.1, q_32.2.2.2.2.2.1, q_32.2.2.2.2.2.2.1, q_32.2.2.2.2.2.2.2, told)
  else
    sX9_statement_q_35 textSize start next token value error errorAt seen text told q_32 (sX9_sets textSize q_32.2.2.2.1 q_32.2.2.2.2.1 q_32.2.2.2.2.2.1 q_32.2.2.2.2.2.2.1 q_32.2.1 q_32.2.2.1 text told 15 1 500)
def sX9_statement_q_50 (textSize : Int32) (start : Int32) (next : Int32) (token : Int32) (value : Int32) (error : Int32) (errorAt : Int32) (seen : Int32) (text : Nat → Int32) (told : Nat → Int32) (q_47 : Int32 × Int32 × Int32 × Int32 × Int32 × Int32 × Int32 × Int32) (q_50 : Int32 × Int32 × Int32 × Int32 × Int32 × Int32 × Int32 × (Nat → Int32)) : Int32 × Int32 × Int32 × Int32 × Int32 × Int32 × Int32 × Int32 × (Nat → Int32) :=
  if q_50.1 = 0 then
    (0, q_50.2.1, q_50.2.2.1, q_50.2.2.2.1, q_50.2.2.2.2.1, q_50.2.2.2.2.2.1, q_50.2.2.2.2.2.2.1, q_47.2.2.2.2.2.2.2, q_50.2.2.2.2.2.2.2)
  else
    (1, q_50.2.1, q_50.2.2.1, q_50.2.2.2.1, q_50.2.2.2.2.1, q_50.2.2.2.2.2.1, q_50.2.2.2.2.2.2.1, q_47.2.2.2.2.2.2.2, q_50.2.2.2.2.2.2.2)
def sX9_statement_q_47 (textSize : Int32) (start : Int32) (next : Int32) (token : Int32) (value : Int32) (error : Int32) (errorAt : Int32) (seen : Int32) (text : Nat → Int32) (told : Nat → Int32) (q_47 : Int32 × Int32 × Int32 × Int32 × Int32 × Int32 × Int32 × Int32) : Int32 × Int32 × Int32 × Int32 × Int32 × Int32 × Int32 × Int32 × (Nat → Int32) :=
  if q_47.1 = 0 then
    (0, q_47.2.1, q_47.2.2.1, q_47.2.2.2.1, q_47.2.2.2.2.1, q_47.2.2.2.2.2.1, q_47.2.2.2.2.2.2.1, q_47.2.2.2.2.2.2.2, told)
  else
    sX9_statement_q_50 textSize start next token value error errorAt seen text told q_47 (sX9_gains textSize q_47.2.2.2.1 q_47.2.2.2.2.1 q_47.2.2.2.2.2.1 q_47.2.2.2.2.2.2.1 q_47.2.1 q_47.2.2.1 text told)
def sX9_statement_q_56 (textSize : Int32) (start : Int32) (next : Int32) (token : Int32) (value : Int32) (error : Int32) (errorAt : Int32) (seen : Int32) (text : Nat → Int32) (told : Nat → Int32) (q_53 : Int32 × Int32 × Int32 × Int32 × Int32 × Int32 × Int32 × Int32) (q_56 : Int32 × Int32 × Int32 × Int32 × Int32 × Int32 × Int32 × (Nat → Int32)) : Int32 × Int32 × Int32 × Int32 × Int32 × Int32 × Int32 × Int32 × (Nat → Int32) :=
  if q_56.1 = 0 then
    (0, q_56.2.1, q_56.2.2.1, q_56.2.2.2.1, q_56.2.2.2.2.1, q_56.2.2.2.2.2.1, q_56.2.2.2.2.2.2.1, q_53.2.2.2.2.2.2.2, q_56.2.2.2.2.2.2.2)
  else
    (1, q_56.2.1, q_56.2.2.1, q_56.2.2.2.1, q_56.2.2.2.2.1, q_56.2.2.2.2.2.1, q_56.2.2.2.2.2.2.1, q_53.2.2.2.2.2.2.2, q_56.2.2.2.2.2.2.2)
def sX9_statement_q_53 (textSize : Int32) (start : Int32) (next : Int32) (token : Int32) (value : Int32) (error : Int32) (errorAt : Int32) (seen : Int32) (text : Nat → Int32) (told : Nat → Int32) (q_53 : Int32 × Int32 × Int32 × Int32 × Int32 × Int32 × Int32 × Int32) : Int32 × Int32 × Int32 × Int32 × Int32 × Int32 × Int32 × Int32 × (Nat → Int32) :=
  if q_53.1 = 0 then
    (0, q_53.2.1, q_53.2.2.1, q_53.2.2.2.1, q_53.2.2.2.2.1, q_53.2.2.2.2.2.1, q_53.2.2.2.2.2.2.1, q_53.2.2.2.2.2.2.2, told)
  else
    sX9_statement_q_56 textSize start next token value error errorAt seen text told q_53 (sX9_sets textSize q_53.2.2.2.1 q_53.2.2.2.2.1 q_53.2.2.2.2.2.1 q_53.2.2.2.2.2.2.1 q_53.2.1 q_53.2.2.1 text told 8 0 200)
def sX9_statement_q_65 (textSize : Int32) (start : Int32) (next : Int32) (token : Int32) (value : Int32) (error : Int32) (errorAt : Int32) (seen : Int32) (text : Nat → Int32) (told : Nat → Int32) (q_59 : Int32 × Int32 × Int32 × Int32 × Int32 × Int32 × Int32 × Int32) (q_62 : Int32 × Int32 × Int32 × Int32 × Int32 × Int32 × Int32 × (Nat → Int32)) (q_65 : Int32 × Int32 × Int32 × Int32 × Int32 × Int32 × Int32 × (Nat → Int32)) : Int32 × Int32 × Int32 × Int32 × Int32 × Int32 × Int32 × Int32 × (Nat → Int32) :=
  if q_65.1 = 0 then
    (0, q_65.2.1, q_65.2.2.1, q_65.2.2.2.1, q_65.2.2.2.2.1, q_65.2.2.2.2.2.1, q_65.2.2.2.2.2.2.1, q_59.2.2.2.2.2.2.2, q_65.2.2.2.2.2.2.2)
  else
    (1, q_65.2.1, q_65.2.2.1, q_65.2.2.2.1, q_65.2.2.2.2.1, q_65.2.2.2.2.2.1, q_65.2.2.2.2.2.2.1, q_59.2.2.2.2.2.2.2, q_65.2.2.2.2.2.2.2)
def sX9_statement_q_62 (textSize : Int32) (start : Int32) (next : Int32) (token : Int32) (value : Int32) (error : Int32) (errorAt : Int32) (seen : Int32) (text : Nat → Int32) (told : Nat → Int32) (q_59 : Int32 × Int32 × Int32 × Int32 × Int32 × Int32 × Int32 × Int32) (q_62 : Int32 × Int32 × Int32 × Int32 × Int32 × Int32 × Int32 × (Nat → Int32)) : Int32 × Int32 × Int32 × Int32 × Int32 × Int32 × Int32 × Int32 × (Nat → Int32) :=
  if q_62.1 = 0 then
    (0, q_62.2.1, q_62.2.2.1, q_62.2.2.2.1, q_62.2.2.2.2.1, q_62.2.2.2.2.2.1, q_62.2.2.2.2.2.2.1, q_59.2.2.2.2.2.2.2, q_62.2.2.2.2.2.2.2)
  else
    sX9_statement_q_65 textSize start next token value error errorAt seen text told q_59 q_62 (sX9_sets textSize q_62.2.2.2.1 q_62.2.2.2.2.1 q_62.2.2.2.2.2.1 q_62.2.2.2.2.2.2.1 q_62.2.1 q_62.2.2.1 text q_62.2.2.2.2.2.2.2 7 1 500)
def sX9_statement_q_59 (textSize : Int32) (start : Int32) (next : Int32) (token : Int32) (value : Int32) (error : Int32) (errorAt : Int32) (seen : Int32) (text : Nat → Int32) (told : Nat → Int32) (q_59 : Int32 × Int32 × Int32 × Int32 × Int32 × Int32 × Int32 × Int32) : Int32 × Int32 × Int32 × Int32 × Int32 × Int32 × Int32 × Int32 × (Nat → Int32) :=
  if q_59.1 = 0 then
    (0, q_59.2.1, q_59.2.2.1, q_59.2.2.2.1, q_59.2.2.2.2.1, q_59.2.2.2.2.2.1, q_59.2.2.2.2.2.2.1, q_59.2.2.2.2.2.2.2, told)
  else
    sX9_statement_q_62 textSize start next token value error errorAt seen text told q_59 (sX9_two textSize q_59.2.2.2.1 q_59.2.2.2.2.1 q_59.2.2.2.2.2.1 q_59.2.2.2.2.2.2.1 q_59.2.1 q_59.2.2.1 text told 5 9)
def sX9_statement_q_71 (textSize : Int32) (start : Int32) (next : Int32) (token : Int32) (value : Int32) (error : Int32) (errorAt : Int32) (seen : Int32) (text : Nat → Int32) (told : Nat → Int32) (q_68 : Int32 × Int32 × Int32 × Int32 × Int32 × Int32 × Int32 × Int32) (q_71 : Int32 × Int32 × Int32 × Int32 × Int32 × Int32 × Int32 × (Nat → Int32)) : Int32 × Int32 × Int32 × Int32 × Int32 × Int32 × Int32 × Int32 × (Nat → Int32) :=
  if q_71.1 = 0 then
    (0, q_71.2.1, q_71.2.2.1, q_71.2.2.2.1, q_71.2.2.2.2.1, q_71.2.2.2.2.2.1, q_71.2.2.2.2.2.2.1, q_68.2.2.2.2.2.2.2, q_71.2.2.2.2.2.2.2)
  else
    (1, q_71.2.1, q_71.2.2.1, q_71.2.2.2.1, q_71.2.2.2.2.1, q_71.2.2.2.2.2.1, q_71.2.2.2.2.2.2.1, q_68.2.2.2.2.2.2.2, q_71.2.2.2.2.2.2.2)
def sX9_statement_q_68 (textSize : Int32) (start : Int32) (next : Int32) (token : Int32) (value : Int32) (error : Int32) (errorAt : Int32) (seen : Int32) (text : Nat → Int32) (told : Nat → Int32) (q_68 : Int32 × Int32 × Int32 × Int32 × Int32 × Int32 × Int32 × Int32) : Int32 × Int32 × Int32 × Int32 × Int32 × Int32 × Int32 × Int32 × (Nat → Int32) :=
  if q_68.1 = 0 then
    (0, q_68.2.1, q_68.2.2.1, q_68.2.2.2.1, q_68.2.2.2.2.1, q_68.2.2.2.2.2.1, q_68.2.2.2.2.2.2.1, q_68.2.2.2.2.2.2.2, told)
  else
    sX9_statement_q_71 textSize start next token value error errorAt seen text told q_68 (sX9_two textSize q_68.2.2.2.1 q_68.2.2.2.2.1 q_68.2.2.2.2.2.1 q_68.2.2.2.2.2.2.1 q_68.2.1 q_68.2.2.1 text told 3 400)
def sX9_statement_q_77 (textSize : Int32) (start : Int32) (next : Int32) (token : Int32) (value : Int32) (error : Int32) (errorAt : Int32) (seen : Int32) (text : Nat → Int32) (told : Nat → Int32) (q_74 : Int32 × Int32 × Int32 × Int32 × Int32 × Int32 × Int32 × Int32) (q_77 : Int32 × Int32 × Int32 × Int32 × Int32 × Int32 × Int32 × (Nat → Int32)) : Int32 × Int32 × Int32 × Int32 × Int32 × Int32 × Int32 × Int32 × (Nat → Int32) :=
  if q_77.1 = 0 then
    (0, q_77.2.1, q_77.2.2.1, q_77.2.2.2.1, q_77.2.2.2.2.1, q_77.2.2.2.2.2.1, q_77.2.2.2.2.2.2.1, q_74.2.2.2.2.2.2.2, q_77.2.2.2.2.2.2.2)
  else
    (1, q_77.2.1, q_77.2.2.1, q_77.2.2.2.1, q_77.2.2.2.2.1, q_77.2.2.2.2.2.1, q_77.2.2.2.2.2.2.1, q_74.2.2.2.2.2.2.2, q_77.2.2.2.2.2.2.2)
def sX9_statement_q_74 (textSize : Int32) (start : Int32) (next : Int32) (token : Int32) (value : Int32) (error : Int32) (errorAt : Int32) (seen : Int32) (text : Nat → Int32) (told : Nat → Int32) (q_74 : Int32 × Int32 × Int32 × Int32 × Int32 × Int32 × Int32 × Int32) : Int32 × Int32 × Int32 × Int32 × Int32 × Int32 × Int32 × Int32 × (Nat → Int32) :=
  if q_74.1 = 0 then
    (0, q_74.2.1, q_74.2.2.1, q_74.2.2.2.1, q_74.2.2.2.2.1, q_74.2.2.2.2.2.1, q_74.2.2.2.2.2.2.1, q_74.2.2.2.2.2.2.2, told)
  else
    sX9_statement_q_77 textSize start next token value error errorAt seen text told q_74 (sX9_two textSize q_74.2.2.2.1 q_74.2.2.2.2.1 q_74.2.2.2.2.2.1 q_74.2.2.2.2.2.2.1 q_74.2.1 q_74.2.2.1 text told 1 200)
def sX9_statement_q_83 (textSize : Int32) (start : Int32) (next : Int32) (token : Int32) (value : Int32) (error : Int32) (errorAt : Int32) (seen : Int32) (text : Nat → Int32) (told : Nat → Int32) (q_80 : Int32 × Int32 × Int32 × Int32 × Int32 × Int32 × Int32 × Int32) (q_83 : Int32 × Int32 × Int32 × Int32 × Int32 × Int32 × Int32 × (Nat → Int32)) : Int32 × Int32 × Int32 × Int32 × Int32 × Int32 × Int32 × Int32 × (Nat → Int32) :=
  if q_83.1 = 0 then
    (0, q_83.2.1, q_83.2.2.1, q_83.2.2.2.1, q_83.2.2.2.2.1, q_83.2.2.2.2.2.1, q_83.2.2.2.2.2.2.1, q_80.2.2.2.2.2.2.2, q_83.2.2.2.2.2.2.2)
  else
    (1, q_83.2.1, q_83.2.2.1, q_83.2.2.2.1, q_83.2.2.2.2.1, q_83.2.2.2.2.2.1, q_83.2.2.2.2.2.2.1, q_80.2.2.2.2.2.2.2, q_83.2.2.2.2.2.2.2)
def sX9_statement_q_80 (textSize : Int32) (start : Int32) (next : Int32) (token : Int32) (value : Int32) (error : Int32) (errorAt : Int32) (seen : Int32) (text : Nat → Int32) (told : Nat → Int32) (q_80 : Int32 × Int32 × Int32 × Int32 × Int32 × Int32 × Int32 × Int32) : Int32 × Int32 × Int32 × Int32 × Int32 × Int32 × Int32 × Int32 × (Nat → Int32) :=
  if q_80.1 = 0 then
    (0, q_80.2.1, q_80.2.2.1, q_80.2.2.2.1, q_80.2.2.2.2.1, q_80.2.2.2.2.2.1, q_80.2.2.2.2.2.2.1, q_80.2.2.2.2.2.2.2, told)
  else
    sX9_statement_q_83 textSize start next token value error errorAt seen text told q_80 (sX9_sets textSize q_80.2.2.2.1 q_80.2.2.2.2.1 q_80.2.2.2.2.2.1 q_80.2.2.2.2.2.2.1 q_80.2.1 q_80.2.2.1 text told 0 1 9999)
def sX9_statement (textSize : Int32) (start : Int32) (next : Int32) (token : Int32) (value : Int32) (error : Int32) (errorAt : Int32) (seen : Int32) (text : Nat → Int32) (told : Nat → Int32) : Int32 × Int32 × Int32 × Int32 × Int32 × Int32 × Int32 × Int32 × (Nat → Int32) :=
  if (sX9_isWord start next token text 0) = 0 then
    if (sX9_isWord start next token text 1) = 0 then
      if (sX9_isWord start next token text 2) = 0 then
        if (sX9_isWord start next token text 3) = 0 then
          if (sX9_isWord start next token text 4) = 0 then
            if (sX9_isWord start next token text 5) = 0 then
              if (sX9_isWord start next token text 6) = 0 then
                if (sX9_isWord start next token text 7) = 0 then
                  if (sX9_isWord start next token text 8) = 0 then
                    sX9_statement_q_10 textSize start next token value error errorAt seen text told (sX9_fails start error errorAt 1)
                  else
                    sX9_statement_q_11 textSize start next token value error errorAt seen text told (sX9_once textSize start next token value error errorAt seen text 8)
                else
                  sX9_statement_q_23 textSize start next token value error errorAt seen text told (sX9_once textSize start next token value error errorAt seen text 7)
              else
                sX9_statement_q_32 textSize start next token value error errorAt seen text told (sX9_once textSize start next token value error errorAt seen text 6)
            else
              sX9_statement_q_47 textSize start next token value error errorAt seen text told (sX9_once textSize start next token value error errorAt seen text 5)
          else
            sX9_statement_q_53 textSize start next token value error errorAt seen text told (sX9_once textSize start next token value error errorAt seen text 4)
        else
          sX9_statement_q_59 textSize start next token value error errorAt seen text told (sX9_once textSize start next token value error errorAt seen text 3)
      else
        sX9_statement_q_68 textSize start next token value error errorAt seen text told (sX9_once textSize start next token value error errorAt seen text 2)
    else
      sX9_statement_q_74 textSize start next token value error errorAt seen text told (sX9_once textSize start next token value error errorAt seen text 1)
  else
    sX9_statement_q_80 textSize start next token value error errorAt seen text told (sX9_once textSize start next token value error errorAt seen text 0)
theorem hdX9_statement : yX9_statement.cls = RX9 ∧ yX9_statement.cls ≠ "java/lang/invoke/MethodHandle" ∧ yX9_statement.cls ≠ "java/lang/invoke/VarHandle" ∧ (parseMethodDescriptor yX9_statement.desc).map (fun d => d.parameters.length) = some 0 := by decide +kernel
set_option maxHeartbeats 4000000 in
set_option maxRecDepth 100000 in
theorem kX9_statement (l : Launch) (E : XE) (Z : XZ) (h : Nat) (thrown : Int32) (nw : Nat) (td : Nat) (tx : Nat) (length : Int32) (textSize : Int32) (start : Int32) (next : Int32) (token : Int32) (value : Int32) (error : Int32) (errorAt : Int32) (seen : Int32) (triedWith : Int32) (rr : Nat) (ss : Nat) (tr : Nat) (wa : Nat) (undos : Int32) (ud : Nat) (sl : Nat) (sv : Nat) (text : Nat → Int32) (told : Nat → Int32) (ht : xTok textSize start next) : xWZ (T := Int32 × Int32 × Int32 × Int32 × Int32 × Int32 × Int32 × Int32 × (Nat → Int32)) l yX9_statement wsX9_statement ({ frames := 5, cells := 0, slots := 0, locals := 108 }) E Z [(h, .inr (9, [.int thrown, .ref nw, .ref td, .ref tx, .int length, .int textSize, .int start, .int next, .int token, .int value, .int error, .int errorAt, .int seen, .int triedWith, .ref rr, .ref ss, .ref tr, .ref wa, .int undos, .ref ud, .ref sl, .ref sv])), (tx, .inl (E.2.2.1, 500, .inl text)), (td, .inl (E.2.1, 48, .inl told))] [.ref h] (fun q => some (.int q.1)) (fun q => [(h, .inr (9, [.int thrown, .ref nw, .ref td, .ref tx, .int length, .int textSize, .int q.2.2.2.1, .int q.2.2.2.2.1, .int q.2.2.2.2.2.1, .int q.2.2.2.2.2.2.1, .int q.2.1, .int q.2.2.1, .int q.2.2.2.2.2.2.2.1, .int triedWith, .ref rr, .ref ss, .ref tr, .ref wa, .int undos, .ref ud, .ref sl, .ref sv])), (tx, .inl (E.2.2.1, 500, .inl text)), (td, .inl (E.2.1, 48, .inl q.2.2.2.2.2.2.2.2))]) (sX9_statement textSize start next token value error errorAt seen text told) 0 0 := by
  refine xWZ.of (cc := cX9_statement) (maxL := 1) (ret := (some .boolean)) (by decide) rfl (Nat.le_of_ble_eq_true rfl) ?_
  intro p e s m args below meth c ls A hM hE hP hD hS hA hZ hl
  obtain ⟨hx, hb, hr, hml, hts, hown, hlk, hnm⟩ := hM
  have hX : xD A [h, tx, td] := xD.of hD rfl
  have hl : lv_has ls 1 [(0, .ref h)] := hl
  refine lv_aload_n hx hb dX9_statement_0 rfl (lv_at hl 0 rfl) ?_
  refine va_ldcS hx hb hown ((hZ.2.2.2.2.2.2.2 0 _ _ []).2 rfl) dX9_statement_1 ?_
  refine x_zV [.ref (xK Z 0)] (kX9_isWord l E Z h thrown nw td tx length textSize start next token value error errorAt seen triedWith rr ss tr wa undos ud sl sv text 0 (by decide) ht) ⟨hx, hb, hml, hown, hts⟩ (cwV 1 hts gX9_statement_X9_isWord rfl rfl rfl hdX9_isWord ⟨Nat.le_of_ble_eq_true rfl, Nat.le_of_ble_eq_true rfl⟩) hZ hS hE hP (hX.d rfl) [0, 1] rfl rfl (ci := 9) (q0 := 0) rfl rfl rfl hl.1 rfl rfl (Nat.le_of_ble_eq_true rfl) dX9_statement_3 (Nat.le_of_ble_eq_true rfl) (Nat.le_of_ble_eq_true rfl) ?_
  refine lv_if_eq (tgt := 35) hx hb dX9_statement_6 (by decide) (fun c_1 => ?_) (fun c_1 => ?_)
  · refine lv_aload_n hx hb dX9_statement_35 rfl (lv_at hl 0 rfl) ?_
    refine va_ldcS hx hb hown ((hZ.2.2.2.2.2.2.2 1 _ _ []).2 rfl) dX9_statement_36 ?_
    refine x_zV [.ref (xK Z 1)] (kX9_isWord l E Z h thrown nw td tx length textSize start next token value error errorAt seen triedWith rr ss tr wa undos ud sl sv text 1 (by decide) ht) ⟨hx, hb, hml, hown, hts⟩ (cwV 1 hts gX9_statement_X9_isWord rfl rfl rfl hdX9_isWord ⟨Nat.le_of_ble_eq_true rfl, Nat.le_of_ble_eq_true rfl⟩) hZ hS hE hP (hX.d rfl) [0, 1] rfl rfl (ci := 9) (q0 := 0) rfl rfl rfl hl.1 rfl rfl (Nat.le_of_ble_eq_true rfl) dX9_statement_38 (Nat.le_of_ble_eq_true rfl) (Nat.le_of_ble_eq_true rfl) ?_
    refine lv_if_eq (tgt := 69) hx hb dX9_statement_41 (by decide) (fun c_2 => ?_) (fun c_2 => ?_)
    · refine lv_aload_n hx hb dX9_statement_69 rfl (lv_at hl 0 rfl) ?_
      refine va_ldcS hx hb hown ((hZ.2.2.2.2.2.2.2 2 _ _ []).2 rfl) dX9_statement_70 ?_
      refine x_zV [.ref (xK Z 2)] (kX9_isWord l E Z h thrown nw td tx length textSize start next token value error errorAt seen triedWith rr ss tr wa undos ud sl sv text 2 (by decide) ht) ⟨hx, hb, hml, hown, hts⟩ (cwV 1 hts gX9_statement_X9_isWord rfl rfl rfl hdX9_isWord ⟨Nat.le_of_ble_eq_true rfl, Nat.le_of_ble_eq_true rfl⟩) hZ hS hE hP (hX.d rfl) [0, 1] rfl rfl (ci := 9) (q0 := 0) rfl rfl rfl hl.1 rfl rfl (Nat.le_of_ble_eq_true rfl) dX9_statement_72 (Nat.le_of_ble_eq_true rfl) (Nat.le_of_ble_eq_true rfl) ?_
      refine lv_if_eq (tgt := 103) hx hb dX9_statement_75 (by decide) (fun c_3 => ?_) (fun c_3 => ?_)
      · refine lv_aload_n hx hb dX9_statement_103 rfl (lv_at hl 0 rfl) ?_
        refine va_ldcS hx hb hown ((hZ.2.2.2.2.2.2.2 3 _ _ []).2 rfl) dX9_statement_104 ?_
        refine x_zV [.ref (xK Z 3)] (kX9_isWord l E Z h thrown nw td tx length textSize start next token value error errorAt seen triedWith rr ss tr wa undos ud sl sv text 3 (by decide) ht) ⟨hx, hb, hml, hown, hts⟩ (cwV 1 hts gX9_statement_X9_isWord rfl rfl rfl hdX9_isWord ⟨Nat.le_of_ble_eq_true rfl, Nat.le_of_ble_eq_true rfl⟩) hZ hS hE hP (hX.d rfl) [0, 1] rfl rfl (ci := 9) (q0 := 0) rfl rfl rfl hl.1 rfl rfl (Nat.le_of_ble_eq_true rfl) dX9_statement_106 (Nat.le_of_ble_eq_true rfl) (Nat.le_of_ble_eq_true rfl) ?_
        refine lv_if_eq (tgt := 149) hx hb dX9_statement_109 (by decide) (fun c_4 => ?_) (fun c_4 => ?_)
        · refine lv_aload_n hx hb dX9_statement_149 rfl (lv_at hl 0 rfl) ?_
          refine va_ldcS hx hb hown ((hZ.2.2.2.2.2.2.2 4 _ _ []).2 rfl) dX9_statement_150 ?_
          refine x_zV [.ref (xK Z 4)] (kX9_isWord l E Z h thrown nw td tx length textSize start next token value error errorAt seen triedWith rr ss tr wa undos ud sl sv text 4 (by decide) ht) ⟨hx, hb, hml, hown, hts⟩ (cwV 1 hts gX9_statement_X9_isWord rfl rfl rfl hdX9_isWord ⟨Nat.le_of_ble_eq_true rfl, Nat.le_of_ble_eq_true rfl⟩) hZ hS hE hP (hX.d rfl) [0, 1] rfl rfl (ci := 9) (q0 := 0) rfl rfl rfl hl.1 rfl rfl (Nat.le_of_ble_eq_true rfl) dX9_statement_152 (Nat.le_of_ble_eq_true rfl) (Nat.le_of_ble_eq_true rfl) ?_
          refine lv_if_eq (tgt := 185) hx hb dX9_statement_155 (by decide) (fun c_5 => ?_) (fun c_5 => ?_)
          · refine lv_aload_n hx hb dX9_statement_185 rfl (lv_at hl 0 rfl) ?_
            refine va_ldcS hx hb hown ((hZ.2.2.2.2.2.2.2 5 _ _ []).2 rfl) dX9_statement_186 ?_
            refine x_zV [.ref (xK Z 5)] (kX9_isWord l E Z h thrown nw td tx length textSize start next token value error errorAt seen triedWith rr ss tr wa undos ud sl sv text 5 (by decide) ht) ⟨hx, hb, hml, hown, hts⟩ (cwV 1 hts gX9_statement_X9_isWord rfl rfl rfl hdX9_isWord ⟨Nat.le_of_ble_eq_true rfl, Nat.le_of_ble_eq_true rfl⟩) hZ hS hE hP (hX.d rfl) [0, 1] rfl rfl (ci := 9) (q0 := 0) rfl rfl rfl hl.1 rfl rfl (Nat.le_of_ble_eq_true rfl) dX9_statement_188 (Nat.le_of_ble_eq_true rfl) (Nat.le_of_ble_eq_true rfl) ?_
            refine lv_if_eq (tgt := 215) hx hb dX9_statement_191 (by decide) (fun c_6 => ?_) (fun c_6 => ?_)
            · refine lv_aload_n hx hb dX9_statement_215 rfl (lv_at hl 0 rfl) ?_
              refine va_ldcS hx hb hown ((hZ.2.2.2.2.2.2.2 6 _ _ []).2 rfl) dX9_statement_216 ?_
              refine x_zV [.ref (xK Z 6)] (kX9_isWord l E Z h thrown nw td tx length textSize start next token value error errorAt seen triedWith rr ss tr wa undos ud sl sv text 6 (by decide) ht) ⟨hx, hb, hml, hown, hts⟩ (cwV 1 hts gX9_statement_X9_isWord rfl rfl rfl hdX9_isWord ⟨Nat.le_of_ble_eq_true rfl, Nat.le_of_ble_eq_true rfl⟩) hZ hS hE hP (hX.d rfl) [0, 1] rfl rfl (ci := 9) (q0 := 0) rfl rfl rfl hl.1 rfl rfl (Nat.le_of_ble_eq_true rfl) dX9_statement_218 (Nat.le_of_ble_eq_true rfl) (Nat.le_of_ble_eq_true rfl) ?_
              refine lv_if_eq (tgt := 289) hx hb dX9_statement_221 (by decide) (fun c_7 => ?_) (fun c_7 => ?_)
              · refine lv_aload_n hx hb dX9_statement_289 rfl (lv_at hl 0 rfl) ?_
                refine va_ldcS hx hb hown ((hZ.2.2.2.2.2.2.2 7 _ _ []).2 rfl) dX9_statement_290 ?_
                refine x_zV [.ref (xK Z 7)] (kX9_isWord l E Z h thrown nw td tx length textSize start next token value error errorAt seen triedWith rr ss tr wa undos ud sl sv text 7 (by decide) ht) ⟨hx, hb, hml, hown, hts⟩ (cwV 1 hts gX9_statement_X9_isWord rfl rfl rfl hdX9_isWord ⟨Nat.le_of_ble_eq_true rfl, Nat.le_of_ble_eq_true rfl⟩) hZ hS hE hP (hX.d rfl) [0, 1] rfl rfl (ci := 9) (q0 := 0) rfl rfl rfl hl.1 rfl rfl (Nat.le_of_ble_eq_true rfl) dX9_statement_292 (Nat.le_of_ble_eq_true rfl) (Nat.le_of_ble_eq_true rfl) ?_
                refine lv_if_eq (tgt := 339) hx hb dX9_statement_295 (by decide) (fun c_8 => ?_) (fun c_8 => ?_)
                · refine lv_aload_n hx hb dX9_statement_339 rfl (lv_at hl 0 rfl) ?_
                  refine va_ldcS hx hb hown ((hZ.2.2.2.2.2.2.2 8 _ _ []).2 rfl) dX9_statement_340 ?_
                  refine x_zV [.ref (xK Z 8)] (kX9_isWord l E Z h thrown nw td tx length textSize start next token value error errorAt seen triedWith rr ss tr wa undos ud sl sv text 8 (by decide) ht) ⟨hx, hb, hml, hown, hts⟩ (cwV 1 hts gX9_statement_X9_isWord rfl rfl rfl hdX9_isWord ⟨Nat.le_of_ble_eq_true rfl, Nat.le_of_ble_eq_true rfl⟩) hZ hS hE hP (hX.d rfl) [0, 1] rfl rfl (ci := 9) (q0 := 0) rfl rfl rfl hl.1 rfl rfl (Nat.le_of_ble_eq_true rfl) dX9_statement_342 (Nat.le_of_ble_eq_true rfl) (Nat.le_of_ble_eq_true rfl) ?_
                  refine lv_if_eq (tgt := 403) hx hb dX9_statement_345 (by decide) (fun c_9 => ?_) (fun c_9 => ?_)
                  · refine lv_aload_n hx hb dX9_statement_403 rfl (lv_at hl 0 rfl) ?_
                    refine lv_iconst (v := 1) hx hb dX9_statement_404 (by decide) ?_
                    refine x_wV (wr := [(tx, .inl (E.2.2.1, 500, .inl text)), (td, .inl (E.2.1, 48, .inl told))]) [.int 1] (kX9_fails l E h thrown nw td tx length textSize start next token value error errorAt seen triedWith rr ss tr wa undos ud sl sv 1) ⟨hx, hb, hml, hown, hts⟩ (cwV 1 hts gX9_statement_X9_fails rfl rfl rfl hdX9_fails ⟨Nat.le_of_ble_eq_true rfl, Nat.le_of_ble_eq_true rfl⟩) hE hP (hX.d rfl) hS hA [0] [1, 2] rfl rfl rfl rfl (by decide) (ci := 9) (q0 := 0) rfl rfl rfl hl.1 rfl rfl (Nat.le_of_ble_eq_true rfl) dX9_statement_405 (Nat.le_of_ble_eq_true rfl) (Nat.le_of_ble_eq_true rfl) (fun q_10 H locs hq_10 hP hD hS => ?_)
                    have hP : va_P E.1 vwCl [(tx, .inl (E.2.2.1, 500, .inl text)), (td, .inl (E.2.1, 48, .inl told)), (h, .inr (9, [.int thrown, .ref nw, .ref td, .ref tx, .int length, .int textSize, .int start, .int next, .int token, .int value, .int q_10.1, .int q_10.2, .int seen, .int triedWith, .ref rr, .ref ss, .ref tr, .ref wa, .int undos, .ref ud, .ref sl, .ref sv]))] H := hP
                    have hX : xD A [tx, td, h] := xD.of hD rfl
                    refine W.eq (g2 := F0 m 408 ls [.int 0]) rfl ?_
                    exact x_wz (0, q_10.1, q_10.2, start, next, token, value, seen, told) (by unfold sX9_statement; rw [if_pos c_1]; rw [if_pos c_2]; rw [if_pos c_3]; rw [if_pos c_4]; rw [if_pos c_5]; rw [if_pos c_6]; rw [if_pos c_7]; rw [if_pos c_8]; rw [if_pos c_9]; rw [← hq_10]; unfold sX9_statement_q_10; try rfl) rfl hx hb hr hlk rfl hS hP (hX.d rfl) [2, 0, 1] rfl rfl (Nat.le_of_ble_eq_true rfl) (Nat.le_of_ble_eq_true rfl) dX9_statement_408
                  · refine lv_aload_n hx hb dX9_statement_348 rfl (lv_at hl 0 rfl) ?_
                    refine lv_bipush (v := 8) hx hb dX9_statement_349 (by decide) ?_
                    refine x_wV (wr := [(td, .inl (E.2.1, 48, .inl told))]) [.int 8] (kX9_once l E h thrown nw td tx length textSize start next token value error errorAt seen triedWith rr ss tr wa undos ud sl sv text 8 ht) ⟨hx, hb, hml, hown, hts⟩ (cwV 1 hts gX9_statement_X9_once rfl rfl rfl hdX9_once ⟨Nat.le_of_ble_eq_true rfl, Nat.le_of_ble_eq_true rfl⟩) hE hP (hX.d rfl) hS hA [0, 1] [2] rfl rfl rfl rfl (by decide) (ci := 9) (q0 := 0) rfl rfl rfl hl.1 rfl rfl (Nat.le_of_ble_eq_true rfl) dX9_statement_351 (Nat.le_of_ble_eq_true rfl) (Nat.le_of_ble_eq_true rfl) (fun q_11 H locs hq_11 hP hD hS => ?_)
                    have hP : va_P E.1 vwCl [(td, .inl (E.2.1, 48, .inl told)), (h, .inr (9, [.int thrown, .ref nw, .ref td, .ref tx, .int length, .int textSize, .int q_11.2.2.2.1, .int q_11.2.2.2.2.1, .int q_11.2.2.2.2.2.1, .int q_11.2.2.2.2.2.2.1, .int q_11.2.1, .int q_11.2.2.1, .int q_11.2.2.2.2.2.2.2, .int triedWith, .ref rr, .ref ss, .ref tr, .ref wa, .int undos, .ref ud, .ref sl, .ref sv])), (tx, .inl (E.2.2.1, 500, .inl text))] H := hP
                    have hX : xD A [td, h, tx] := xD.of hD rfl
                    have gv_12 : xTok textSize q_11.2.2.2.1 q_11.2.2.2.2.1 := by rw [hq_11]; exact x_onceT ht
                    refine W.eq (g2 := F0 m 354 ls [.int q_11.1]) rfl ?_
                    refine lv_if_eq (tgt := 399) hx hb dX9_statement_354 (by decide) (fun c_13 => ?_) (fun c_13 => ?_)
                    · refine lv_iconst (v := 0) hx hb dX9_statement_399 (by decide) ?_
                      refine lv_goto (tgt := 408) hx hb dX9_statement_400 (by decide) ?_
                      exact x_wz (0, q_11.2.1, q_11.2.2.1, q_11.2.2.2.1, q_11.2.2.2.2.1, q_11.2.2.2.2.2.1, q_11.2.2.2.2.2.2.1, q_11.2.2.2.2.2.2.2, told) (by unfold sX9_statement; rw [if_pos c_1]; rw [if_pos c_2]; rw [if_pos c_3]; rw [if_pos c_4]; rw [if_pos c_5]; rw [if_pos c_6]; rw [if_pos c_7]; rw [if_pos c_8]; rw [if_neg c_9]; rw [← hq_11]; unfold sX9_statement_q_11; rw [if_pos c_13]; try rfl) rfl hx hb hr hlk rfl hS hP (hX.d rfl) [1, 2, 0] rfl rfl (Nat.le_of_ble_eq_true rfl) (Nat.le_of_ble_eq_true rfl) dX9_statement_408
                    · refine lv_aload_n hx hb dX9_statement_357 rfl (lv_at hl 0 rfl) ?_
                      refine lv_bipush (v := 21) hx hb dX9_statement_358 (by decide) ?_
                      refine lv_iconst (v := 1) hx hb dX9_statement_360 (by decide) ?_
                      refine lv_bipush (v := 20) hx hb dX9_statement_361 (by decide) ?_
                      refine x_wV (wr := []) [.int 21, .int 1, .int 20] (kX9_sets l E h thrown nw td tx length textSize q_11.2.2.2.1 q_11.2.2.2.2.1 q_11.2.2.2.2.2.1 q_11.2.2.2.2.2.2.1 q_11.2.1 q_11.2.2.1 q_11.2.2.2.2.2.2.2 triedWith rr ss tr wa undos ud sl sv text told 21 1 20 (by decide) (by decide) gv_12) ⟨hx, hb, hml, hown, hts⟩ (cwV 3 hts gX9_statement_X9_sets rfl rfl rfl hdX9_sets ⟨Nat.le_of_ble_eq_true rfl, Nat.le_of_ble_eq_true rfl⟩) hE hP (hX.d rfl) hS hA [1, 2, 0] [] rfl rfl rfl rfl (by decide) (ci := 9) (q0 := 1) rfl rfl rfl hl.1 rfl rfl (Nat.le_of_ble_eq_true rfl) dX9_statement_363 (Nat.le_of_ble_eq_true rfl) (Nat.le_of_ble_eq_true rfl) (fun q_14 H locs hq_14 hP hD hS => ?_)
                      have hP : va_P E.1 vwCl [(h, .inr (9, [.int thrown, .ref nw, .ref td, .ref tx, .int length, .int textSize, .int q_14.2.2.2.1, .int q_14.2.2.2.2.1, .int q_14.2.2.2.2.2.1, .int q_14.2.2.2.2.2.2.1, .int q_14.2.1, .int q_14.2.2.1, .int q_11.2.2.2.2.2.2.2, .int triedWith, .ref rr, .ref ss, .ref tr, .ref wa, .int undos, .ref ud, .ref sl, .ref sv])), (tx, .inl (E.2.2.1, 500, .inl text)), (td, .inl (E.2.1, 48, .inl q_14.2.2.2.2.2.2.2))] H := hP
                      have hX : xD A [h, tx, td] := xD.of hD rfl
                      have gv_15 : xTok textSize q_14.2.2.2.1 q_14.2.2.2.2.1 := by rw [hq_14]; exact x_setsT gv_12
                      refine W.eq (g2 := F0 m 366 ls [.int q_14.1]) rfl ?_
                      refine lv_if_eq (tgt := 399) hx hb dX9_statement_366 (by decide) (fun c_16 => ?_) (fun c_16 => ?_)
                      · refine lv_iconst (v := 0) hx hb dX9_statement_399 (by decide) ?_
                        refine lv_goto (tgt := 408) hx hb dX9_statement_400 (by decide) ?_
                        exact x_wz (0, q_14.2.1, q_14.2.2.1, q_14.2.2.2.1, q_14.2.2.2.2.1, q_14.2.2.2.2.2.1, q_14.2.2.2.2.2.2.1, q_11.2.2.2.2.2.2.2, q_14.2.2.2.2.2.2.2) (by unfold sX9_statement; rw [if_pos c_1]; rw [if_pos c_2]; rw [if_pos c_3]; rw [if_pos c_4]; rw [if_pos c_5]; rw [if_pos c_6]; rw [if_pos c_7]; rw [if_pos c_8]; rw [if_neg c_9]; rw [← hq_11]; unfold sX9_statement_q_11; rw [if_neg c_13]; rw [← hq_14]; unfold sX9_statement_q_14; rw [if_pos c_16]; try rfl) rfl hx hb hr hlk rfl hS hP (hX.d rfl) [0, 1, 2] rfl rfl (Nat.le_of_ble_eq_true rfl) (Nat.le_of_ble_eq_true rfl) dX9_statement_408
                      · refine lv_aload_n hx hb dX9_statement_369 rfl (lv_at hl 0 rfl) ?_
                        refine lv_bipush (v := 22) hx hb dX9_statement_370 (by decide) ?_
                        refine lv_iconst (v := 1) hx hb dX9_statement_372 (by decide) ?_
                        refine lv_sipush (v := 200) hx hb dX9_statement_373 (by decide) ?_
                        refine x_wV (wr := []) [.int 22, .int 1, .int 200] (kX9_sets l E h thrown nw td tx length textSize q_14.2.2.2.1 q_14.2.2.2.2.1 q_14.2.2.2.2.2.1 q_14.2.2.2.2.2.2.1 q_14.2.1 q_14.2.2.1 q_11.2.2.2.2.2.2.2 triedWith rr ss tr wa undos ud sl sv text q_14.2.2.2.2.2.2.2 22 1 200 (by decide) (by decide) gv_15) ⟨hx, hb, hml, hown, hts⟩ (cwV 3 hts gX9_statement_X9_sets rfl rfl rfl hdX9_sets ⟨Nat.le_of_ble_eq_true rfl, Nat.le_of_ble_eq_true rfl⟩) hE hP (hX.d rfl) hS hA [0, 1, 2] [] rfl rfl rfl rfl (by decide) (ci := 9) (q0 := 0) rfl rfl rfl hl.1 rfl rfl (Nat.le_of_ble_eq_true rfl) dX9_statement_376 (Nat.le_of_ble_eq_true rfl) (Nat.le_of_ble_eq_true rfl) (fun q_17 H locs hq_17 hP hD hS => ?_)
                        have hP : va_P E.1 vwCl [(h, .inr (9, [.int thrown, .ref nw, .ref td, .ref tx, .int length, .int textSize, .int q_17.2.2.2.1, .int q_17.2.2.2.2.1, .int q_17.2.2.2.2.2.1, .int q_17.2.2.2.2.2.2.1, .int q_17.2.1, .int q_17.2.2.1, .int q_11.2.2.2.2.2.2.2, .int triedWith, .ref rr, .ref ss, .ref tr, .ref wa, .int undos, .ref ud, .ref sl, .ref sv])), (tx, .inl (E.2.2.1, 500, .inl text)), (td, .inl (E.2.1, 48, .inl q_17.2.2.2.2.2.2.2))] H := hP
                        have hX : xD A [h, tx, td] := xD.of hD rfl
                        have gv_18 : xTok textSize q_17.2.2.2.1 q_17.2.2.2.2.1 := by rw [hq_17]; exact x_setsT gv_15
                        refine W.eq (g2 := F0 m 379 ls [.int q_17.1]) rfl ?_
                        refine lv_if_eq (tgt := 399) hx hb dX9_statement_379 (by decide) (fun c_19 => ?_) (fun c_19 => ?_)
                        · refine lv_iconst (v := 0) hx hb dX9_statement_399 (by decide) ?_
                          refine lv_goto (tgt := 408) hx hb dX9_statement_400 (by decide) ?_
                          exact x_wz (0, q_17.2.1, q_17.2.2.1, q_17.2.2.2.1, q_17.2.2.2.2.1, q_17.2.2.2.2.2.1, q_17.2.2.2.2.2.2.1, q_11.2.2.2.2.2.2.2, q_17.2.2.2.2.2.2.2) (by unfold sX9_statement; rw [if_pos c_1]; rw [if_pos c_2]; rw [if_pos c_3]; rw [if_pos c_4]; rw [if_pos c_5]; rw [if_pos c_6]; rw [if_pos c_7]; rw [if_pos c_8]; rw [if_neg c_9]; rw [← hq_11]; unfold sX9_statement_q_11; rw [if_neg c_13]; rw [← hq_14]; unfold sX9_statement_q_14; rw [if_neg c_16]; rw [← hq_17]; unfold sX9_statement_q_17; rw [if_pos c_19]; try rfl) rfl hx hb hr hlk rfl hS hP (hX.d rfl) [0, 1, 2] rfl rfl (Nat.le_of_ble_eq_true rfl) (Nat.le_of_ble_eq_true rfl) dX9_statement_408
                        · refine lv_aload_n hx hb dX9_statement_382 rfl (lv_at hl 0 rfl) ?_
                          refine lv_bipush (v := 23) hx hb dX9_statement_383 (by decide) ?_
                          refine lv_iconst (v := 0) hx hb dX9_statement_385 (by decide) ?_
                          refine lv_sipush (v := 999) hx hb dX9_statement_386 (by decide) ?_
                          refine x_wV (wr := []) [.int 23, .int 0, .int 999] (kX9_sets l E h thrown nw td tx length textSize q_17.2.2.2.1 q_17.2.2.2.2.1 q_17.2.2.2.2.2.1 q_17.2.2.2.2.2.2.1 q_17.2.1 q_17.2.2.1 q_11.2.2.2.2.2.2.2 triedWith rr ss tr wa undos ud sl sv text q_17.2.2.2.2.2.2.2 23 0 999 (by decide) (by decide) gv_18) ⟨hx, hb, hml, hown, hts⟩ (cwV 3 hts gX9_statement_X9_sets rfl rfl rfl hdX9_sets ⟨Nat.le_of_ble_eq_true rfl, Nat.le_of_ble_eq_true rfl⟩) hE hP (hX.d rfl) hS hA [0, 1, 2] [] rfl rfl rfl rfl (by decide) (ci := 9) (q0 := 0) rfl rfl rfl hl.1 rfl rfl (Nat.le_of_ble_eq_true rfl) dX9_statement_389 (Nat.le_of_ble_eq_true rfl) (Nat.le_of_ble_eq_true rfl) (fun q_20 H locs hq_20 hP hD hS => ?_)
                          have hP : va_P E.1 vwCl [(h, .inr (9, [.int thrown, .ref nw, .ref td, .ref tx, .int length, .int textSize, .int q_20.2.2.2.1, .int q_20.2.2.2.2.1, .int q_20.2.2.2.2.2.1, .int q_20.2.2.2.2.2.2.1, .int q_20.2.1, .int q_20.2.2.1, .int q_11.2.2.2.2.2.2.2, .int triedWith, .ref rr, .ref ss, .ref tr, .ref wa, .int undos, .ref ud, .ref sl, .ref sv])), (tx, .inl (E.2.2.1, 500, .inl text)), (td, .inl (E.2.1, 48, .inl q_20.2.2.2.2.2.2.2))] H := hP
                          have hX : xD A [h, tx, td] := xD.of hD rfl
                          have gv_21 : xTok textSize q_20.2.2.2.1 q_20.2.2.2.2.1 := by rw [hq_20]; exact x_setsT gv_18
                          refine W.eq (g2 := F0 m 392 ls [.int q_20.1]) rfl ?_
                          refine lv_if_eq (tgt := 399) hx hb dX9_statement_392 (by decide) (fun c_22 => ?_) (fun c_22 => ?_)
                          · refine lv_iconst (v := 0) hx hb dX9_statement_399 (by decide) ?_
                            refine lv_goto (tgt := 408) hx hb dX9_statement_400 (by decide) ?_
                            exact x_wz (0, q_20.2.1, q_20.2.2.1, q_20.2.2.2.1, q_20.2.2.2.2.1, q_20.2.2.2.2.2.1, q_20.2.2.2.2.2.2.1, q_11.2.2.2.2.2.2.2, q_20.2.2.2.2.2.2.2) (by unfold sX9_statement; rw [if_pos c_1]; rw [if_pos c_2]; rw [if_pos c_3]; rw [if_pos c_4]; rw [if_pos c_5]; rw [if_pos c_6]; rw [if_pos c_7]; rw [if_pos c_8]; rw [if_neg c_9]; rw [← hq_11]; unfold sX9_statement_q_11; rw [if_neg c_13]; rw [← hq_14]; unfold sX9_statement_q_14; rw [if_neg c_16]; rw [← hq_17]; unfold sX9_statement_q_17; rw [if_neg c_19]; rw [← hq_20]; unfold sX9_statement_q_20; rw [if_pos c_22]; try rfl) rfl hx hb hr hlk rfl hS hP (hX.d rfl) [0, 1, 2] rfl rfl (Nat.le_of_ble_eq_true rfl) (Nat.le_of_ble_eq_true rfl) dX9_statement_408
                          · refine lv_iconst (v := 1) hx hb dX9_statement_395 (by decide) ?_
                            refine lv_goto (tgt := 408) hx hb dX9_statement_396 (by decide) ?_
                            exact x_wz (1, q_20.2.1, q_20.2.2.1, q_20.2.2.2.1, q_20.2.2.2.2.1, q_20.2.2.2.2.2.1, q_20.2.2.2.2.2.2.1, q_11.2.2.2.2.2.2.2, q_20.2.2.2.2.2.2.2) (by unfold sX9_statement; rw [if_pos c_1]; rw [if_pos c_2]; rw [if_pos c_3]; rw [if_pos c_4]; rw [if_pos c_5]; rw [if_pos c_6]; rw [if_pos c_7]; rw [if_pos c_8]; rw [if_neg c_9]; rw [← hq_11]; unfold sX9_statement_q_11; rw [if_neg c_13]; rw [← hq_14]; unfold sX9_statement_q_14; rw [if_neg c_16]; rw [← hq_17]; unfold sX9_statement_q_17; rw [if_neg c_19]; rw [← hq_20]; unfold sX9_statement_q_20; rw [if_neg c_22]; try rfl) rfl hx hb hr hlk rfl hS hP (hX.d rfl) [0, 1, 2] rfl rfl (Nat.le_of_ble_eq_true rfl) (Nat.le_of_ble_eq_true rfl) dX9_statement_408
                · refine lv_aload_n hx hb dX9_statement_298 rfl (lv_at hl 0 rfl) ?_
                  refine lv_bipush (v := 7) hx hb dX9_statement_299 (by decide) ?_
                  refine x_wV (wr := [(td, .inl (E.2.1, 48, .inl told))]) [.int 7] (kX9_once l E h thrown nw td tx length textSize start next token value error errorAt seen triedWith rr ss tr wa undos ud sl sv text 7 ht) ⟨hx, hb, hml, hown, hts⟩ (cwV 1 hts gX9_statement_X9_once rfl rfl rfl hdX9_once ⟨Nat.le_of_ble_eq_true rfl, Nat.le_of_ble_eq_true rfl⟩) hE hP (hX.d rfl) hS hA [0, 1] [2] rfl rfl rfl rfl (by decide) (ci := 9) (q0 := 0) rfl rfl rfl hl.1 rfl rfl (Nat.le_of_ble_eq_true rfl) dX9_statement_301 (Nat.le_of_ble_eq_true rfl) (Nat.le_of_ble_eq_true rfl) (fun q_23 H locs hq_23 hP hD hS => ?_)
                  have hP : va_P E.1 vwCl [(td, .inl (E.2.1, 48, .inl told)), (h, .inr (9, [.int thrown, .ref nw, .ref td, .ref tx, .int length, .int textSize, .int q_23.2.2.2.1, .int q_23.2.2.2.2.1, .int q_23.2.2.2.2.2.1, .int q_23.2.2.2.2.2.2.1, .int q_23.2.1, .int q_23.2.2.1, .int q_23.2.2.2.2.2.2.2, .int triedWith, .ref rr, .ref ss, .ref tr, .ref wa, .int undos, .ref ud, .ref sl, .ref sv])), (tx, .inl (E.2.2.1, 500, .inl text))] H := hP
                  have hX : xD A [td, h, tx] := xD.of hD rfl
                  have gv_24 : xTok textSize q_23.2.2.2.1 q_23.2.2.2.2.1 := by rw [hq_23]; exact x_onceT ht
                  refine W.eq (g2 := F0 m 304 ls [.int q_23.1]) rfl ?_
                  refine lv_if_eq (tgt := 337) hx hb dX9_statement_304 (by decide) (fun c_25 => ?_) (fun c_25 => ?_)
                  · refine lv_iconst (v := 0) hx hb dX9_statement_337 (by decide) ?_
                    exact x_wz (0, q_23.2.1, q_23.2.2.1, q_23.2.2.2.1, q_23.2.2.2.2.1, q_23.2.2.2.2.2.1, q_23.2.2.2.2.2.2.1, q_23.2.2.2.2.2.2.2, told) (by unfold sX9_statement; rw [if_pos c_1]; rw [if_pos c_2]; rw [if_pos c_3]; rw [if_pos c_4]; rw [if_pos c_5]; rw [if_pos c_6]; rw [if_pos c_7]; rw [if_neg c_8]; rw [← hq_23]; unfold sX9_statement_q_23; rw [if_pos c_25]; try rfl) rfl hx hb hr hlk rfl hS hP (hX.d rfl) [1, 2, 0] rfl rfl (Nat.le_of_ble_eq_true rfl) (Nat.le_of_ble_eq_true rfl) dX9_statement_338
                  · refine lv_aload_n hx hb dX9_statement_307 rfl (lv_at hl 0 rfl) ?_
                    refine lv_bipush (v := 19) hx hb dX9_statement_308 (by decide) ?_
                    refine lv_iconst (v := 1) hx hb dX9_statement_310 (by decide) ?_
                    refine lv_sipush (v := 2000) hx hb dX9_statement_311 (by decide) ?_
                    refine x_wV (wr := []) [.int 19, .int 1, .int 2000] (kX9_sets l E h thrown nw td tx length textSize q_23.2.2.2.1 q_23.2.2.2.2.1 q_23.2.2.2.2.2.1 q_23.2.2.2.2.2.2.1 q_23.2.1 q_23.2.2.1 q_23.2.2.2.2.2.2.2 triedWith rr ss tr wa undos ud sl sv text told 19 1 2000 (by decide) (by decide) gv_24) ⟨hx, hb, hml, hown, hts⟩ (cwV 3 hts gX9_statement_X9_sets rfl rfl rfl hdX9_sets ⟨Nat.le_of_ble_eq_true rfl, Nat.le_of_ble_eq_true rfl⟩) hE hP (hX.d rfl) hS hA [1, 2, 0] [] rfl rfl rfl rfl (by decide) (ci := 9) (q0 := 1) rfl rfl rfl hl.1 rfl rfl (Nat.le_of_ble_eq_true rfl) dX9_statement_314 (Nat.le_of_ble_eq_true rfl) (Nat.le_of_ble_eq_true rfl) (fun q_26 H locs hq_26 hP hD hS => ?_)
                    have hP : va_P E.1 vwCl [(h, .inr (9, [.int thrown, .ref nw, .ref td, .ref tx, .int length, .int textSize, .int q_26.2.2.2.1, .int q_26.2.2.2.2.1, .int q_26.2.2.2.2.2.1, .int q_26.2.2.2.2.2.2.1, .int q_26.2.1, .int q_26.2.2.1, .int q_23.2.2.2.2.2.2.2, .int triedWith, .ref rr, .ref ss, .ref tr, .ref wa, .int undos, .ref ud, .ref sl, .ref sv])), (tx, .inl (E.2.2.1, 500, .inl text)), (td, .inl (E.2.1, 48, .inl q_26.2.2.2.2.2.2.2))] H := hP
                    have hX : xD A [h, tx, td] := xD.of hD rfl
                    have gv_27 : xTok textSize q_26.2.2.2.1 q_26.2.2.2.2.1 := by rw [hq_26]; exact x_setsT gv_24
                    refine W.eq (g2 := F0 m 317 ls [.int q_26.1]) rfl ?_
                    refine lv_if_eq (tgt := 337) hx hb dX9_statement_317 (by decide) (fun c_28 => ?_) (fun c_28 => ?_)
                    · refine lv_iconst (v := 0) hx hb dX9_statement_337 (by decide) ?_
                      exact x_wz (0, q_26.2.1, q_26.2.2.1, q_26.2.2.2.1, q_26.2.2.2.2.1, q_26.2.2.2.2.2.1, q_26.2.2.2.2.2.2.1, q_23.2.2.2.2.2.2.2, q_26.2.2.2.2.2.2.2) (by unfold sX9_statement; rw [if_pos c_1]; rw [if_pos c_2]; rw [if_pos c_3]; rw [if_pos c_4]; rw [if_pos c_5]; rw [if_pos c_6]; rw [if_pos c_7]; rw [if_neg c_8]; rw [← hq_23]; unfold sX9_statement_q_23; rw [if_neg c_25]; rw [← hq_26]; unfold sX9_statement_q_26; rw [if_pos c_28]; try rfl) rfl hx hb hr hlk rfl hS hP (hX.d rfl) [0, 1, 2] rfl rfl (Nat.le_of_ble_eq_true rfl) (Nat.le_of_ble_eq_true rfl) dX9_statement_338
                    · refine lv_aload_n hx hb dX9_statement_320 rfl (lv_at hl 0 rfl) ?_
                      refine lv_bipush (v := 20) hx hb dX9_statement_321 (by decide) ?_
                      refine lv_iconst (v := 1) hx hb dX9_statement_323 (by decide) ?_
                      refine lv_sipush (v := 9999) hx hb dX9_statement_324 (by decide) ?_
                      refine x_wV (wr := []) [.int 20, .int 1, .int 9999] (kX9_sets l E h thrown nw td tx length textSize q_26.2.2.2.1 q_26.2.2.2.2.1 q_26.2.2.2.2.2.1 q_26.2.2.2.2.2.2.1 q_26.2.1 q_26.2.2.1 q_23.2.2.2.2.2.2.2 triedWith rr ss tr wa undos ud sl sv text q_26.2.2.2.2.2.2.2 20 1 9999 (by decide) (by decide) gv_27) ⟨hx, hb, hml, hown, hts⟩ (cwV 3 hts gX9_statement_X9_sets rfl rfl rfl hdX9_sets ⟨Nat.le_of_ble_eq_true rfl, Nat.le_of_ble_eq_true rfl⟩) hE hP (hX.d rfl) hS hA [0, 1, 2] [] rfl rfl rfl rfl (by decide) (ci := 9) (q0 := 0) rfl rfl rfl hl.1 rfl rfl (Nat.le_of_ble_eq_true rfl) dX9_statement_327 (Nat.le_of_ble_eq_true rfl) (Nat.le_of_ble_eq_true rfl) (fun q_29 H locs hq_29 hP hD hS => ?_)
                      have hP : va_P E.1 vwCl [(h, .inr (9, [.int thrown, .ref nw, .ref td, .ref tx, .int length, .int textSize, .int q_29.2.2.2.1, .int q_29.2.2.2.2.1, .int q_29.2.2.2.2.2.1, .int q_29.2.2.2.2.2.2.1, .int q_29.2.1, .int q_29.2.2.1, .int q_23.2.2.2.2.2.2.2, .int triedWith, .ref rr, .ref ss, .ref tr, .ref wa, .int undos, .ref ud, .ref sl, .ref sv])), (tx, .inl (E.2.2.1, 500, .inl text)), (td, .inl (E.2.1, 48, .inl q_29.2.2.2.2.2.2.2))] H := hP
                      have hX : xD A [h, tx, td] := xD.of hD rfl
                      have gv_30 : xTok textSize q_29.2.2.2.1 q_29.2.2.2.2.1 := by rw [hq_29]; exact x_setsT gv_27
                      refine W.eq (g2 := F0 m 330 ls [.int q_29.1]) rfl ?_
                      refine lv_if_eq (tgt := 337) hx hb dX9_statement_330 (by decide) (fun c_31 => ?_) (fun c_31 => ?_)
                      · refine lv_iconst (v := 0) hx hb dX9_statement_337 (by decide) ?_
                        exact x_wz (0, q_29.2.1, q_29.2.2.1, q_29.2.2.2.1, q_29.2.2.2.2.1, q_29.2.2.2.2.2.1, q_29.2.2.2.2.2.2.1, q_23.2.2.2.2.2.2.2, q_29.2.2.2.2.2.2.2) (by unfold sX9_statement; rw [if_pos c_1]; rw [if_pos c_2]; rw [if_pos c_3]; rw [if_pos c_4]; rw [if_pos c_5]; rw [if_pos c_6]; rw [if_pos c_7]; rw [if_neg c_8]; rw [← hq_23]; unfold sX9_statement_q_23; rw [if_neg c_25]; rw [← hq_26]; unfold sX9_statement_q_26; rw [if_neg c_28]; rw [← hq_29]; unfold sX9_statement_q_29; rw [if_pos c_31]; try rfl) rfl hx hb hr hlk rfl hS hP (hX.d rfl) [0, 1, 2] rfl rfl (Nat.le_of_ble_eq_true rfl) (Nat.le_of_ble_eq_true rfl) dX9_statement_338
                      · refine lv_iconst (v := 1) hx hb dX9_statement_333 (by decide) ?_
                        refine lv_goto (tgt := 338) hx hb dX9_statement_334 (by decide) ?_
                        exact x_wz (1, q_29.2.1, q_29.2.2.1, q_29.2.2.2.1, q_29.2.2.2.2.1, q_29.2.2.2.2.2.1, q_29.2.2.2.2.2.2.1, q_23.2.2.2.2.2.2.2, q_29.2.2.2.2.2.2.2) (by unfold sX9_statement; rw [if_pos c_1]; rw [if_pos c_2]; rw [if_pos c_3]; rw [if_pos c_4]; rw [if_pos c_5]; rw [if_pos c_6]; rw [if_pos c_7]; rw [if_neg c_8]; rw [← hq_23]; unfold sX9_statement_q_23; rw [if_neg c_25]; rw [← hq_26]; unfold sX9_statement_q_26; rw [if_neg c_28]; rw [← hq_29]; unfold sX9_statement_q_29; rw [if_neg c_31]; try rfl) rfl hx hb hr hlk rfl hS hP (hX.d rfl) [0, 1, 2] rfl rfl (Nat.le_of_ble_eq_true rfl) (Nat.le_of_ble_eq_true rfl) dX9_statement_338
              · refine lv_aload_n hx hb dX9_statement_224 rfl (lv_at hl 0 rfl) ?_
                refine lv_bipush (v := 6) hx hb dX9_statement_225 (by decide) ?_
                refine x_wV (wr := [(td, .inl (E.2.1, 48, .inl told))]) [.int 6] (kX9_once l E h thrown nw td tx length textSize start next token value error errorAt seen triedWith rr ss tr wa undos ud sl sv text 6 ht) ⟨hx, hb, hml, hown, hts⟩ (cwV 1 hts gX9_statement_X9_once rfl rfl rfl hdX9_once ⟨Nat.le_of_ble_eq_true rfl, Nat.le_of_ble_eq_true rfl⟩) hE hP (hX.d rfl) hS hA [0, 1] [2] rfl rfl rfl rfl (by decide) (ci := 9) (q0 := 0) rfl rfl rfl hl.1 rfl rfl (Nat.le_of_ble_eq_true rfl) dX9_statement_227 (Nat.le_of_ble_eq_true rfl) (Nat.le_of_ble_eq_true rfl) (fun q_32 H locs hq_32 hP hD hS => ?_)
                have hP : va_P E.1 vwCl [(td, .inl (E.2.1, 48, .inl told)), (h, .inr (9, [.int thrown, .ref nw, .ref td, .ref tx, .int length, .int textSize, .int q_32.2.2.2.1, .int q_32.2.2.2.2.1, .int q_32.2.2.2.2.2.1, .int q_32.2.2.2.2.2.2.1, .int q_32.2.1, .int q_32.2.2.1, .int q_32.2.2.2.2.2.2.2, .int triedWith, .ref rr, .ref ss, .ref tr, .ref wa, .int undos, .ref ud, .ref sl, .ref sv])), (tx, .inl (E.2.2.1, 500, .inl text))] H := hP
                have hX : xD A [td, h, tx] := xD.of hD rfl
                have gv_33 : xTok textSize q_32.2.2.2.1 q_32.2.2.2.2.1 := by rw [hq_32]; exact x_onceT ht
                refine W.eq (g2 := F0 m 230 ls [.int q_32.1]) rfl ?_
                refine lv_if_eq (tgt := 287) hx hb dX9_statement_230 (by decide) (fun c_34 => ?_) (fun c_34 => ?_)
                · refine lv_iconst (v := 0) hx hb dX9_statement_287 (by decide) ?_
                  exact x_wz (0, q_32.2.1, q_32.2.2.1, q_32.2.2.2.1, q_32.2.2.2.2.1, q_32.2.2.2.2.2.1, q_32.2.2.2.2.2.2.1, q_32.2.2.2.2.2.2.2, told) (by unfold sX9_statement; rw [if_pos c_1]; rw [if_pos c_2]; rw [if_pos c_3]; rw [if_pos c_4]; rw [if_pos c_5]; rw [if_pos c_6]; rw [if_neg c_7]; rw [← hq_32]; unfold sX9_statement_q_32; rw [if_pos c_34]; try rfl) rfl hx hb hr hlk rfl hS hP (hX.d rfl) [1, 2, 0] rfl rfl (Nat.le_of_ble_eq_true rfl) (Nat.le_of_ble_eq_true rfl) dX9_statement_288
                · refine lv_aload_n hx hb dX9_statement_233 rfl (lv_at hl 0 rfl) ?_
                  refine lv_bipush (v := 15) hx hb dX9_statement_234 (by decide) ?_
                  refine lv_iconst (v := 1) hx hb dX9_statement_236 (by decide) ?_
                  refine lv_sipush (v := 500) hx hb dX9_statement_237 (by decide) ?_
                  refine x_wV (wr := []) [.int 15, .int 1, .int 500] (kX9_sets l E h thrown nw td tx length textSize q_32.2.2.2.1 q_32.2.2.2.2.1 q_32.2.2.2.2.2.1 q_32.2.2.2.2.2.2.1 q_32.2.1 q_32.2.2.1 q_32.2.2.2.2.2.2.2 triedWith rr ss tr wa undos ud sl sv text told 15 1 500 (by decide) (by decide) gv_33) ⟨hx, hb, hml, hown, hts⟩ (cwV 3 hts gX9_statement_X9_sets rfl rfl rfl hdX9_sets ⟨Nat.le_of_ble_eq_true rfl, Nat.le_of_ble_eq_true rfl⟩) hE hP (hX.d rfl) hS hA [1, 2, 0] [] rfl rfl rfl rfl (by decide) (ci := 9) (q0 := 1) rfl rfl rfl hl.1 rfl rfl (Nat.le_of_ble_eq_true rfl) dX9_statement_240 (Nat.le_of_ble_eq_true rfl) (Nat.le_of_ble_eq_true rfl) (fun q_35 H locs hq_35 hP hD hS => ?_)
                  have hP : va_P E.1 vwCl [(h, .inr (9, [.int thrown, .ref nw, .ref td, .ref tx, .int length, .int textSize, .int q_35.2.2.2.1, .int q_35.2.2.2.2.1, .int q_35.2.2.2.2.2.1, .int q_35.2.2.2.2.2.2.1, .int q_35.2.1, .int q_35.2.2.1, .int q_32.2.2.2.2.2.2.2, .int triedWith, .ref rr, .ref ss, .ref tr, .ref wa, .int undos, .ref ud, .ref sl, .ref sv])), (tx, .inl (E.2.2.1, 500, .inl text)), (td, .inl (E.2.1, 48, .inl q_35.2.2.2.2.2.2.2))] H := hP
                  have hX : xD A [h, tx, td] := xD.of hD rfl
                  have gv_36 : xTok textSize q_35.2.2.2.1 q_35.2.2.2.2.1 := by rw [hq_35]; exact x_setsT gv_33
                  refine W.eq (g2 := F0 m 243 ls [.int q_35.1]) rfl ?_
                  refine lv_if_eq (tgt := 287) hx hb dX9_statement_243 (by decide) (fun c_37 => ?_) (fun c_37 => ?_)
                  · refine lv_iconst (v := 0) hx hb dX9_statement_287 (by decide) ?_
                    exact x_wz (0, q_35.2.1, q_35.2.2.1, q_35.2.2.2.1, q_35.2.2.2.2.1, q_35.2.2.2.2.2.1, q_35.2.2.2.2.2.2.1, q_32.2.2.2.2.2.2.2, q_35.2.2.2.2.2.2.2) (by unfold sX9_statement; rw [if_pos c_1]; rw [if_pos c_2]; rw [if_pos c_3]; rw [if_pos c_4]; rw [if_pos c_5]; rw [if_pos c_6]; rw [if_neg c_7]; rw [← hq_32]; unfold sX9_statement_q_32; rw [if_neg c_34]; rw [← hq_35]; unfold sX9_statement_q_35; rw [if_pos c_37]; try rfl) rfl hx hb hr hlk rfl hS hP (hX.d rfl) [0, 1, 2] rfl rfl (Nat.le_of_ble_eq_true rfl) (Nat.le_of_ble_eq_true rfl) dX9_statement_288
                  · refine lv_aload_n hx hb dX9_statement_246 rfl (lv_at hl 0 rfl) ?_
                    refine lv_bipush (v := 16) hx hb dX9_statement_247 (by decide) ?_
                    refine lv_iconst (v := 1) hx hb dX9_statement_249 (by decide) ?_
                    refine lv_sipush (v := 500) hx hb dX9_statement_250 (by decide) ?_
                    refine x_wV (wr := []) [.int 16, .int 1, .int 500] (kX9_sets l E h thrown nw td tx length textSize q_35.2.2.2.1 q_35.2.2.2.2.1 q_35.2.2.2.2.2.1 q_35.2.2.2.2.2.2.1 q_35.2.1 q_35.2.2.1 q_32.2.2.2.2.2.2.2 triedWith rr ss tr wa undos ud sl sv text q_35.2.2.2.2.2.2.2 16 1 500 (by decide) (by decide) gv_36) ⟨hx, hb, hml, hown, hts⟩ (cwV 3 hts gX9_statement_X9_sets rfl rfl rfl hdX9_sets ⟨Nat.le_of_ble_eq_true rfl, Nat.le_of_ble_eq_true rfl⟩) hE hP (hX.d rfl) hS hA [0, 1, 2] [] rfl rfl rfl rfl (by decide) (ci := 9) (q0 := 0) rfl rfl rfl hl.1 rfl rfl (Nat.le_of_ble_eq_true rfl) dX9_statement_253 (Nat.le_of_ble_eq_true rfl) (Nat.le_of_ble_eq_true rfl) (fun q_38 H locs hq_38 hP hD hS => ?_)
                    have hP : va_P E.1 vwCl [(h, .inr (9, [.int thrown, .ref nw, .ref td, .ref tx, .int length, .int textSize, .int q_38.2.2.2.1, .int q_38.2.2.2.2.1, .int q_38.2.2.2.2.2.1, .int q_38.2.2.2.2.2.2.1, .int q_38.2.1, .int q_38.2.2.1, .int q_32.2.2.2.2.2.2.2, .int triedWith, .ref rr, .ref ss, .ref tr, .ref wa, .int undos, .ref ud, .ref sl, .ref sv])), (tx, .inl (E.2.2.1, 500, .inl text)), (td, .inl (E.2.1, 48, .inl q_38.2.2.2.2.2.2.2))] H := hP
                    have hX : xD A [h, tx, td] := xD.of hD rfl
                    have gv_39 : xTok textSize q_38.2.2.2.1 q_38.2.2.2.2.1 := by rw [hq_38]; exact x_setsT gv_36
                    refine W.eq (g2 := F0 m 256 ls [.int q_38.1]) rfl ?_
                    refine lv_if_eq (tgt := 287) hx hb dX9_statement_256 (by decide) (fun c_40 => ?_) (fun c_40 => ?_)
                    · refine lv_iconst (v := 0) hx hb dX9_statement_287 (by decide) ?_
                      exact x_wz (0, q_38.2.1, q_38.2.2.1, q_38.2.2.2.1, q_38.2.2.2.2.1, q_38.2.2.2.2.2.1, q_38.2.2.2.2.2.2.1, q_32.2.2.2.2.2.2.2, q_38.2.2.2.2.2.2.2) (by unfold sX9_statement; rw [if_pos c_1]; rw [if_pos c_2]; rw [if_pos c_3]; rw [if_pos c_4]; rw [if_pos c_5]; rw [if_pos c_6]; rw [if_neg c_7]; rw [← hq_32]; unfold sX9_statement_q_32; rw [if_neg c_34]; rw [← hq_35]; unfold sX9_statement_q_35; rw [if_neg c_37]; rw [← hq_38]; unfold sX9_statement_q_38; rw [if_pos c_40]; try rfl) rfl hx hb hr hlk rfl hS hP (hX.d rfl) [0, 1, 2] rfl rfl (Nat.le_of_ble_eq_true rfl) (Nat.le_of_ble_eq_true rfl) dX9_statement_288
                    · refine lv_aload_n hx hb dX9_statement_259 rfl (lv_at hl 0 rfl) ?_
                      refine lv_bipush (v := 17) hx hb dX9_statement_260 (by decide) ?_
                      refine lv_iconst (v := 0) hx hb dX9_statement_262 (by decide) ?_
                      refine lv_iconst (v := 3) hx hb dX9_statement_263 (by decide) ?_
                      refine x_wV (wr := []) [.int 17, .int 0, .int 3] (kX9_sets l E h thrown nw td tx length textSize q_38.2.2.2.1 q_38.2.2.2.2.1 q_38.2.2.2.2.2.1 q_38.2.2.2.2.2.2.1 q_38.2.1 q_38.2.2.1 q_32.2.2.2.2.2.2.2 triedWith rr ss tr wa undos ud sl sv text q_38.2.2.2.2.2.2.2 17 0 3 (by decide) (by decide) gv_39) ⟨hx, hb, hml, hown, hts⟩ (cwV 3 hts gX9_statement_X9_sets rfl rfl rfl hdX9_sets ⟨Nat.le_of_ble_eq_true rfl, Nat.le_of_ble_eq_true rfl⟩) hE hP (hX.d rfl) hS hA [0, 1, 2] [] rfl rfl rfl rfl (by decide) (ci := 9) (q0 := 0) rfl rfl rfl hl.1 rfl rfl (Nat.le_of_ble_eq_true rfl) dX9_statement_264 (Nat.le_of_ble_eq_true rfl) (Nat.le_of_ble_eq_true rfl) (fun q_41 H locs hq_41 hP hD hS => ?_)
                      have hP : va_P E.1 vwCl [(h, .inr (9, [.int thrown, .ref nw, .ref td, .ref tx, .int length, .int textSize, .int q_41.2.2.2.1, .int q_41.2.2.2.2.1, .int q_41.2.2.2.2.2.1, .int q_41.2.2.2.2.2.2.1, .int q_41.2.1, .int q_41.2.2.1, .int q_32.2.2.2.2.2.2.2, .int triedWith, .ref rr, .ref ss, .ref tr, .ref wa, .int undos, .ref ud, .ref sl, .ref sv])), (tx, .inl (E.2.2.1, 500, .inl text)), (td, .inl (E.2.1, 48, .inl q_41.2.2.2.2.2.2.2))] H := hP
                      have hX : xD A [h, tx, td] := xD.of hD rfl
                      have gv_42 : xTok textSize q_41.2.2.2.1 q_41.2.2.2.2.1 := by rw [hq_41]; exact x_setsT gv_39
                      refine W.eq (g2 := F0 m 267 ls [.int q_41.1]) rfl ?_
                      refine lv_if_eq (tgt := 287) hx hb dX9_statement_267 (by decide) (fun c_43 => ?_) (fun c_43 => ?_)
                      · refine lv_iconst (v := 0) hx hb dX9_statement_287 (by decide) ?_
                        exact x_wz (0, q_41.2.1, q_41.2.2.1, q_41.2.2.2.1, q_41.2.2.2.2.1, q_41.2.2.2.2.2.1, q_41.2.2.2.2.2.2.1, q_32.2.2.2.2.2.2.2, q_41.2.2.2.2.2.2.2) (by unfold sX9_statement; rw [if_pos c_1]; rw [if_pos c_2]; rw [if_pos c_3]; rw [if_pos c_4]; rw [if_pos c_5]; rw [if_pos c_6]; rw [if_neg c_7]; rw [← hq_32]; unfold sX9_statement_q_32; rw [if_neg c_34]; rw [← hq_35]; unfold sX9_statement_q_35; rw [if_neg c_37]; rw [← hq_38]; unfold sX9_statement_q_38; rw [if_neg c_40]; rw [← hq_41]; unfold sX9_statement_q_41; rw [if_pos c_43]; try rfl) rfl hx hb hr hlk rfl hS hP (hX.d rfl) [0, 1, 2] rfl rfl (Nat.le_of_ble_eq_true rfl) (Nat.le_of_ble_eq_true rfl) dX9_statement_288
                      · refine lv_aload_n hx hb dX9_statement_270 rfl (lv_at hl 0 rfl) ?_
                        refine lv_bipush (v := 18) hx hb dX9_statement_271 (by decide) ?_
                        refine lv_iconst (v := 1) hx hb dX9_statement_273 (by decide) ?_
                        refine lv_sipush (v := 200) hx hb dX9_statement_274 (by decide) ?_
                        refine x_wV (wr := []) [.int 18, .int 1, .int 200] (kX9_sets l E h thrown nw td tx length textSize q_41.2.2.2.1 q_41.2.2.2.2.1 q_41.2.2.2.2.2.1 q_41.2.2.2.2.2.2.1 q_41.2.1 q_41.2.2.1 q_32.2.2.2.2.2.2.2 triedWith rr ss tr wa undos ud sl sv text q_41.2.2.2.2.2.2.2 18 1 200 (by decide) (by decide) gv_42) ⟨hx, hb, hml, hown, hts⟩ (cwV 3 hts gX9_statement_X9_sets rfl rfl rfl hdX9_sets ⟨Nat.le_of_ble_eq_true rfl, Nat.le_of_ble_eq_true rfl⟩) hE hP (hX.d rfl) hS hA [0, 1, 2] [] rfl rfl rfl rfl (by decide) (ci := 9) (q0 := 0) rfl rfl rfl hl.1 rfl rfl (Nat.le_of_ble_eq_true rfl) dX9_statement_277 (Nat.le_of_ble_eq_true rfl) (Nat.le_of_ble_eq_true rfl) (fun q_44 H locs hq_44 hP hD hS => ?_)
                        have hP : va_P E.1 vwCl [(h, .inr (9, [.int thrown, .ref nw, .ref td, .ref tx, .int length, .int textSize, .int q_44.2.2.2.1, .int q_44.2.2.2.2.1, .int q_44.2.2.2.2.2.1, .int q_44.2.2.2.2.2.2.1, .int q_44.2.1, .int q_44.2.2.1, .int q_32.2.2.2.2.2.2.2, .int triedWith, .ref rr, .ref ss, .ref tr, .ref wa, .int undos, .ref ud, .ref sl, .ref sv])), (tx, .inl (E.2.2.1, 500, .inl text)), (td, .inl (E.2.1, 48, .inl q_44.2.2.2.2.2.2.2))] H := hP
                        have hX : xD A [h, tx, td] := xD.of hD rfl
                        have gv_45 : xTok textSize q_44.2.2.2.1 q_44.2.2.2.2.1 := by rw [hq_44]; exact x_setsT gv_42
                        refine W.eq (g2 := F0 m 280 ls [.int q_44.1]) rfl ?_
                        refine lv_if_eq (tgt := 287) hx hb dX9_statement_280 (by decide) (fun c_46 => ?_) (fun c_46 => ?_)
                        · refine lv_iconst (v := 0) hx hb dX9_statement_287 (by decide) ?_
                          exact x_wz (0, q_44.2.1, q_44.2.2.1, q_44.2.2.2.1, q_44.2.2.2.2.1, q_44.2.2.2.2.2.1, q_44.2.2.2.2.2.2.1, q_32.2.2.2.2.2.2.2, q_44.2.2.2.2.2.2.2) (by unfold sX9_statement; rw [if_pos c_1]; rw [if_pos c_2]; rw [if_pos c_3]; rw [if_pos c_4]; rw [if_pos c_5]; rw [if_pos c_6]; rw [if_neg c_7]; rw [← hq_32]; unfold sX9_statement_q_32; rw [if_neg c_34]; rw [← hq_35]; unfold sX9_statement_q_35; rw [if_neg c_37]; rw [← hq_38]; unfold sX9_statement_q_38; rw [if_neg c_40]; rw [← hq_41]; unfold sX9_statement_q_41; rw [if_neg c_43]; rw [← hq_44]; unfold sX9_statement_q_44; rw [if_pos c_46]; try rfl) rfl hx hb hr hlk rfl hS hP (hX.d rfl) [0, 1, 2] rfl rfl (Nat.le_of_ble_eq_true rfl) (Nat.le_of_ble_eq_true rfl) dX9_statement_288
                        · refine lv_iconst (v := 1) hx hb dX9_statement_283 (by decide) ?_
                          refine lv_goto (tgt := 288) hx hb dX9_statement_284 (by decide) ?_
                          exact x_wz (1, q_44.2.1, q_44.2.2.1, q_44.2.2.2.1, q_44.2.2.2.2.1, q_44.2.2.2.2.2.1, q_44.2.2.2.2.2.2.1, q_32.2.2.2.2.2.2.2, q_44.2.2.2.2.2.2.2) (by unfold sX9_statement; rw [if_pos c_1]; rw [if_pos c_2]; rw [if_pos c_3]; rw [if_pos c_4]; rw [if_pos c_5]; rw [if_pos c_6]; rw [if_neg c_7]; rw [← hq_32]; unfold sX9_statement_q_32; rw [if_neg c_34]; rw [← hq_35]; unfold sX9_statement_q_35; rw [if_neg c_37]; rw [← hq_38]; unfold sX9_statement_q_38; rw [if_neg c_40]; rw [← hq_41]; unfold sX9_statement_q_41; rw [if_neg c_43]; rw [← hq_44]; unfold sX9_statement_q_44; rw [if_neg c_46]; try rfl) rfl hx hb hr hlk rfl hS hP (hX.d rfl) [0, 1, 2] rfl rfl (Nat.le_of_ble_eq_true rfl) (Nat.le_of_ble_eq_true rfl) dX9_statement_288
            · refine lv_aload_n hx hb dX9_statement_194 rfl (lv_at hl 0 rfl) ?_
              refine lv_iconst (v := 5) hx hb dX9_statement_195 (by decide) ?_
              refine x_wV (wr := [(td, .inl (E.2.1, 48, .inl told))]) [.int 5] (kX9_once l E h thrown nw td tx length textSize start next token value error errorAt seen triedWith rr ss tr wa undos ud sl sv text 5 ht) ⟨hx, hb, hml, hown, hts⟩ (cwV 1 hts gX9_statement_X9_once rfl rfl rfl hdX9_once ⟨Nat.le_of_ble_eq_true rfl, Nat.le_of_ble_eq_true rfl⟩) hE hP (hX.d rfl) hS hA [0, 1] [2] rfl rfl rfl rfl (by decide) (ci := 9) (q0 := 0) rfl rfl rfl hl.1 rfl rfl (Nat.le_of_ble_eq_true rfl) dX9_statement_196 (Nat.le_of_ble_eq_true rfl) (Nat.le_of_ble_eq_true rfl) (fun q_47 H locs hq_47 hP hD hS => ?_)
              have hP : va_P E.1 vwCl [(td, .inl (E.2.1, 48, .inl told)), (h, .inr (9, [.int thrown, .ref nw, .ref td, .ref tx, .int length, .int textSize, .int q_47.2.2.2.1, .int q_47.2.2.2.2.1, .int q_47.2.2.2.2.2.1, .int q_47.2.2.2.2.2.2.1, .int q_47.2.1, .int q_47.2.2.1, .int q_47.2.2.2.2.2.2.2, .int triedWith, .ref rr, .ref ss, .ref tr, .ref wa, .int undos, .ref ud, .ref sl, .ref sv])), (tx, .inl (E.2.2.1, 500, .inl text))] H := hP
              have hX : xD A [td, h, tx] := xD.of hD rfl
              have gv_48 : xTok textSize q_47.2.2.2.1 q_47.2.2.2.2.1 := by rw [hq_47]; exact x_onceT ht
              refine W.eq (g2 := F0 m 199 ls [.int q_47.1]) rfl ?_
              refine lv_if_eq (tgt := 213) hx hb dX9_statement_199 (by decide) (fun c_49 => ?_) (fun c_49 => ?_)
              · refine lv_iconst (v := 0) hx hb dX9_statement_213 (by decide) ?_
                exact x_wz (0, q_47.2.1, q_47.2.2.1, q_47.2.2.2.1, q_47.2.2.2.2.1, q_47.2.2.2.2.2.1, q_47.2.2.2.2.2.2.1, q_47.2.2.2.2.2.2.2, told) (by unfold sX9_statement; rw [if_pos c_1]; rw [if_pos c_2]; rw [if_pos c_3]; rw [if_pos c_4]; rw [if_pos c_5]; rw [if_neg c_6]; rw [← hq_47]; unfold sX9_statement_q_47; rw [if_pos c_49]; try rfl) rfl hx hb hr hlk rfl hS hP (hX.d rfl) [1, 2, 0] rfl rfl (Nat.le_of_ble_eq_true rfl) (Nat.le_of_ble_eq_true rfl) dX9_statement_214
              · refine lv_aload_n hx hb dX9_statement_202 rfl (lv_at hl 0 rfl) ?_
                refine x_wV (wr := []) [] (kX9_gains l E h thrown nw td tx length textSize q_47.2.2.2.1 q_47.2.2.2.2.1 q_47.2.2.2.2.2.1 q_47.2.2.2.2.2.2.1 q_47.2.1 q_47.2.2.1 q_47.2.2.2.2.2.2.2 triedWith rr ss tr wa undos ud sl sv text told gv_48) ⟨hx, hb, hml, hown, hts⟩ (cwV 0 hts gX9_statement_X9_gains rfl rfl rfl hdX9_gains ⟨Nat.le_of_ble_eq_true rfl, Nat.le_of_ble_eq_true rfl⟩) hE hP (hX.d rfl) hS hA [1, 2, 0] [] rfl rfl rfl rfl (by decide) (ci := 9) (q0 := 1) rfl rfl rfl hl.1 rfl rfl (Nat.le_of_ble_eq_true rfl) dX9_statement_203 (Nat.le_of_ble_eq_true rfl) (Nat.le_of_ble_eq_true rfl) (fun q_50 H locs hq_50 hP hD hS => ?_)
                have hP : va_P E.1 vwCl [(h, .inr (9, [.int thrown, .ref nw, .ref td, .ref tx, .int length, .int textSize, .int q_50.2.2.2.1, .int q_50.2.2.2.2.1, .int q_50.2.2.2.2.2.1, .int q_50.2.2.2.2.2.2.1, .int q_50.2.1, .int q_50.2.2.1, .int q_47.2.2.2.2.2.2.2, .int triedWith, .ref rr, .ref ss, .ref tr, .ref wa, .int undos, .ref ud, .ref sl, .ref sv])), (tx, .inl (E.2.2.1, 500, .inl text)), (td, .inl (E.2.1, 48, .inl q_50.2.2.2.2.2.2.2))] H := hP
                have hX : xD A [h, tx, td] := xD.of hD rfl
                have gv_51 : xTok textSize q_50.2.2.2.1 q_50.2.2.2.2.1 := by rw [hq_50]; exact x_gainsT gv_48
                refine W.eq (g2 := F0 m 206 ls [.int q_50.1]) rfl ?_
                refine lv_if_eq (tgt := 213) hx hb dX9_statement_206 (by decide) (fun c_52 => ?_) (fun c_52 => ?_)
                · refine lv_iconst (v := 0) hx hb dX9_statement_213 (by decide) ?_
                  exact x_wz (0, q_50.2.1, q_50.2.2.1, q_50.2.2.2.1, q_50.2.2.2.2.1, q_50.2.2.2.2.2.1, q_50.2.2.2.2.2.2.1, q_47.2.2.2.2.2.2.2, q_50.2.2.2.2.2.2.2) (by unfold sX9_statement; rw [if_pos c_1]; rw [if_pos c_2]; rw [if_pos c_3]; rw [if_pos c_4]; rw [if_pos c_5]; rw [if_neg c_6]; rw [← hq_47]; unfold sX9_statement_q_47; rw [if_neg c_49]; rw [← hq_50]; unfold sX9_statement_q_50; rw [if_pos c_52]; try rfl) rfl hx hb hr hlk rfl hS hP (hX.d rfl) [0, 1, 2] rfl rfl (Nat.le_of_ble_eq_true rfl) (Nat.le_of_ble_eq_true rfl) dX9_statement_214
                · refine lv_iconst (v := 1) hx hb dX9_statement_209 (by decide) ?_
                  refine lv_goto (tgt := 214) hx hb dX9_statement_210 (by decide) ?_
                  exact x_wz (1, q_50.2.1, q_50.2.2.1, q_50.2.2.2.1, q_50.2.2.2.2.1, q_50.2.2.2.2.2.1, q_50.2.2.2.2.2.2.1, q_47.2.2.2.2.2.2.2, q_50.2.2.2.2.2.2.2) (by unfold sX9_statement; rw [if_pos c_1]; rw [if_pos c_2]; rw [if_pos c_3]; rw [if_pos c_4]; rw [if_pos c_5]; rw [if_neg c_6]; rw [← hq_47]; unfold sX9_statement_q_47; rw [if_neg c_49]; rw [← hq_50]; unfold sX9_statement_q_50; rw [if_neg c_52]; try rfl) rfl hx hb hr hlk rfl hS hP (hX.d rfl) [0, 1, 2] rfl rfl (Nat.le_of_ble_eq_true rfl) (Nat.le_of_ble_eq_true rfl) dX9_statement_214
          · refine lv_aload_n hx hb dX9_statement_158 rfl (lv_at hl 0 rfl) ?_
            refine lv_iconst (v := 4) hx hb dX9_statement_159 (by decide) ?_
            refine x_wV (wr := [(td, .inl (E.2.1, 48, .inl told))]) [.int 4] (kX9_once l E h thrown nw td tx length textSize start next token value error errorAt seen triedWith rr ss tr wa undos ud sl sv text 4 ht) ⟨hx, hb, hml, hown, hts⟩ (cwV 1 hts gX9_statement_X9_once rfl rfl rfl hdX9_once ⟨Nat.le_of_ble_eq_true rfl, Nat.le_of_ble_eq_true rfl⟩) hE hP (hX.d rfl) hS hA [0, 1] [2] rfl rfl rfl rfl (by decide) (ci := 9) (q0 := 0) rfl rfl rfl hl.1 rfl rfl (Nat.le_of_ble_eq_true rfl) dX9_statement_160 (Nat.le_of_ble_eq_true rfl) (Nat.le_of_ble_eq_true rfl) (fun q_53 H locs hq_53 hP hD hS => ?_)
            have hP : va_P E.1 vwCl [(td, .inl (E.2.1, 48, .inl told)), (h, .inr (9, [.int thrown, .ref nw, .ref td, .ref tx, .int length, .int textSize, .int q_53.2.2.2.1, .int q_53.2.2.2.2.1, .int q_53.2.2.2.2.2.1, .int q_53.2.2.2.2.2.2.1, .int q_53.2.1, .int q_53.2.2.1, .int q_53.2.2.2.2.2.2.2, .int triedWith, .ref rr, .ref ss, .ref tr, .ref wa, .int undos, .ref ud, .ref sl, .ref sv])), (tx, .inl (E.2.2.1, 500, .inl text))] H := hP
            have hX : xD A [td, h, tx] := xD.of hD rfl
            have gv_54 : xTok textSize q_53.2.2.2.1 q_53.2.2.2.2.1 := by rw [hq_53]; exact x_onceT ht
            refine W.eq (g2 := F0 m 163 ls [.int q_53.1]) rfl ?_
            refine lv_if_eq (tgt := 183) hx hb dX9_statement_163 (by decide) (fun c_55 => ?_) (fun c_55 => ?_)
            · refine lv_iconst (v := 0) hx hb dX9_statement_183 (by decide) ?_
              exact x_wz (0, q_53.2.1, q_53.2.2.1, q_53.2.2.2.1, q_53.2.2.2.2.1, q_53.2.2.2.2.2.1, q_53.2.2.2.2.2.2.1, q_53.2.2.2.2.2.2.2, told) (by unfold sX9_statement; rw [if_pos c_1]; rw [if_pos c_2]; rw [if_pos c_3]; rw [if_pos c_4]; rw [if_neg c_5]; rw [← hq_53]; unfold sX9_statement_q_53; rw [if_pos c_55]; try rfl) rfl hx hb hr hlk rfl hS hP (hX.d rfl) [1, 2, 0] rfl rfl (Nat.le_of_ble_eq_true rfl) (Nat.le_of_ble_eq_true rfl) dX9_statement_184
            · refine lv_aload_n hx hb dX9_statement_166 rfl (lv_at hl 0 rfl) ?_
              refine lv_bipush (v := 8) hx hb dX9_statement_167 (by decide) ?_
              refine lv_iconst (v := 0) hx hb dX9_statement_169 (by decide) ?_
              refine lv_sipush (v := 200) hx hb dX9_statement_170 (by decide) ?_
              refine x_wV (wr := []) [.int 8, .int 0, .int 200] (kX9_sets l E h thrown nw td tx length textSize q_53.2.2.2.1 q_53.2.2.2.2.1 q_53.2.2.2.2.2.1 q_53.2.2.2.2.2.2.1 q_53.2.1 q_53.2.2.1 q_53.2.2.2.2.2.2.2 triedWith rr ss tr wa undos ud sl sv text told 8 0 200 (by decide) (by decide) gv_54) ⟨hx, hb, hml, hown, hts⟩ (cwV 3 hts gX9_statement_X9_sets rfl rfl rfl hdX9_sets ⟨Nat.le_of_ble_eq_true rfl, Nat.le_of_ble_eq_true rfl⟩) hE hP (hX.d rfl) hS hA [1, 2, 0] [] rfl rfl rfl rfl (by decide) (ci := 9) (q0 := 1) rfl rfl rfl hl.1 rfl rfl (Nat.le_of_ble_eq_true rfl) dX9_statement_173 (Nat.le_of_ble_eq_true rfl) (Nat.le_of_ble_eq_true rfl) (fun q_56 H locs hq_56 hP hD hS => ?_)
              have hP : va_P E.1 vwCl [(h, .inr (9, [.int thrown, .ref nw, .ref td, .ref tx, .int length, .int textSize, .int q_56.2.2.2.1, .int q_56.2.2.2.2.1, .int q_56.2.2.2.2.2.1, .int q_56.2.2.2.2.2.2.1, .int q_56.2.1, .int q_56.2.2.1, .int q_53.2.2.2.2.2.2.2, .int triedWith, .ref rr, .ref ss, .ref tr, .ref wa, .int undos, .ref ud, .ref sl, .ref sv])), (tx, .inl (E.2.2.1, 500, .inl text)), (td, .inl (E.2.1, 48, .inl q_56.2.2.2.2.2.2.2))] H := hP
              have hX : xD A [h, tx, td] := xD.of hD rfl
              have gv_57 : xTok textSize q_56.2.2.2.1 q_56.2.2.2.2.1 := by rw [hq_56]; exact x_setsT gv_54
              refine W.eq (g2 := F0 m 176 ls [.int q_56.1]) rfl ?_
              refine lv_if_eq (tgt := 183) hx hb dX9_statement_176 (by decide) (fun c_58 => ?_) (fun c_58 => ?_)
              · refine lv_iconst (v := 0) hx hb dX9_statement_183 (by decide) ?_
                exact x_wz (0, q_56.2.1, q_56.2.2.1, q_56.2.2.2.1, q_56.2.2.2.2.1, q_56.2.2.2.2.2.1, q_56.2.2.2.2.2.2.1, q_53.2.2.2.2.2.2.2, q_56.2.2.2.2.2.2.2) (by unfold sX9_statement; rw [if_pos c_1]; rw [if_pos c_2]; rw [if_pos c_3]; rw [if_pos c_4]; rw [if_neg c_5]; rw [← hq_53]; unfold sX9_statement_q_53; rw [if_neg c_55]; rw [← hq_56]; unfold sX9_statement_q_56; rw [if_pos c_58]; try rfl) rfl hx hb hr hlk rfl hS hP (hX.d rfl) [0, 1, 2] rfl rfl (Nat.le_of_ble_eq_true rfl) (Nat.le_of_ble_eq_true rfl) dX9_statement_184
              · refine lv_iconst (v := 1) hx hb dX9_statement_179 (by decide) ?_
                refine lv_goto (tgt := 184) hx hb dX9_statement_180 (by decide) ?_
                exact x_wz (1, q_56.2.1, q_56.2.2.1, q_56.2.2.2.1, q_56.2.2.2.2.1, q_56.2.2.2.2.2.1, q_56.2.2.2.2.2.2.1, q_53.2.2.2.2.2.2.2, q_56.2.2.2.2.2.2.2) (by unfold sX9_statement; rw [if_pos c_1]; rw [if_pos c_2]; rw [if_pos c_3]; rw [if_pos c_4]; rw [if_neg c_5]; rw [← hq_53]; unfold sX9_statement_q_53; rw [if_neg c_55]; rw [← hq_56]; unfold sX9_statement_q_56; rw [if_neg c_58]; try rfl) rfl hx hb hr hlk rfl hS hP (hX.d rfl) [0, 1, 2] rfl rfl (Nat.le_of_ble_eq_true rfl) (Nat.le_of_ble_eq_true rfl) dX9_statement_184
        · refine lv_aload_n hx hb dX9_statement_112 rfl (lv_at hl 0 rfl) ?_
          refine lv_iconst (v := 3) hx hb dX9_statement_113 (by decide) ?_
          refine x_wV (wr := [(td, .inl (E.2.1, 48, .inl told))]) [.int 3] (kX9_once l E h thrown nw td tx length textSize start next token value error errorAt seen triedWith rr ss tr wa undos ud sl sv text 3 ht) ⟨hx, hb, hml, hown, hts⟩ (cwV 1 hts gX9_statement_X9_once rfl rfl rfl hdX9_once ⟨Nat.le_of_ble_eq_true rfl, Nat.le_of_ble_eq_true rfl⟩) hE hP (hX.d rfl) hS hA [0, 1] [2] rfl rfl rfl rfl (by decide) (ci := 9) (q0 := 0) rfl rfl rfl hl.1 rfl rfl (Nat.le_of_ble_eq_true rfl) dX9_statement_114 (Nat.le_of_ble_eq_true rfl) (Nat.le_of_ble_eq_true rfl) (fun q_59 H locs hq_59 hP hD hS => ?_)
          have hP : va_P E.1 vwCl [(td, .inl (E.2.1, 48, .inl told)), (h, .inr (9, [.int thrown, .ref nw, .ref td, .ref tx, .int length, .int textSize, .int q_59.2.2.2.1, .int q_59.2.2.2.2.1, .int q_59.2.2.2.2.2.1, .int q_59.2.2.2.2.2.2.1, .int q_59.2.1, .int q_59.2.2.1, .int q_59.2.2.2.2.2.2.2, .int triedWith, .ref rr, .ref ss, .ref tr, .ref wa, .int undos, .ref ud, .ref sl, .ref sv])), (tx, .inl (E.2.2.1, 500, .inl text))] H := hP
          have hX : xD A [td, h, tx] := xD.of hD rfl
          have gv_60 : xTok textSize q_59.2.2.2.1 q_59.2.2.2.2.1 := by rw [hq_59]; exact x_onceT ht
          refine W.eq (g2 := F0 m 117 ls [.int q_59.1]) rfl ?_
          refine lv_if_eq (tgt := 147) hx hb dX9_statement_117 (by decide) (fun c_61 => ?_) (fun c_61 => ?_)
          · refine lv_iconst (v := 0) hx hb dX9_statement_147 (by decide) ?_
            exact x_wz (0, q_59.2.1, q_59.2.2.1, q_59.2.2.2.1, q_59.2.2.2.2.1, q_59.2.2.2.2.2.1, q_59.2.2.2.2.2.2.1, q_59.2.2.2.2.2.2.2, told) (by unfold sX9_statement; rw [if_pos c_1]; rw [if_pos c_2]; rw [if_pos c_3]; rw [if_neg c_4]; rw [← hq_59]; unfold sX9_statement_q_59; rw [if_pos c_61]; try rfl) rfl hx hb hr hlk rfl hS hP (hX.d rfl) [1, 2, 0] rfl rfl (Nat.le_of_ble_eq_true rfl) (Nat.le_of_ble_eq_true rfl) dX9_statement_148
          · refine lv_aload_n hx hb dX9_statement_120 rfl (lv_at hl 0 rfl) ?_
            refine lv_iconst (v := 5) hx hb dX9_statement_121 (by decide) ?_
            refine lv_bipush (v := 9) hx hb dX9_statement_122 (by decide) ?_
            refine x_wV (wr := []) [.int 5, .int 9] (kX9_two l E h thrown nw td tx length textSize q_59.2.2.2.1 q_59.2.2.2.2.1 q_59.2.2.2.2.2.1 q_59.2.2.2.2.2.2.1 q_59.2.1 q_59.2.2.1 q_59.2.2.2.2.2.2.2 triedWith rr ss tr wa undos ud sl sv text told 5 9 (by decide) (by decide) (by decide) (by decide) gv_60) ⟨hx, hb, hml, hown, hts⟩ (cwV 2 hts gX9_statement_X9_two rfl rfl rfl hdX9_two ⟨Nat.le_of_ble_eq_true rfl, Nat.le_of_ble_eq_true rfl⟩) hE hP (hX.d rfl) hS hA [1, 2, 0] [] rfl rfl rfl rfl (by decide) (ci := 9) (q0 := 1) rfl rfl rfl hl.1 rfl rfl (Nat.le_of_ble_eq_true rfl) dX9_statement_124 (Nat.le_of_ble_eq_true rfl) (Nat.le_of_ble_eq_true rfl) (fun q_62 H locs hq_62 hP hD hS => ?_)
            have hP : va_P E.1 vwCl [(h, .inr (9, [.int thrown, .ref nw, .ref td, .ref tx, .int length, .int textSize, .int q_62.2.2.2.1, .int q_62.2.2.2.2.1, .int q_62.2.2.2.2.2.1, .int q_62.2.2.2.2.2.2.1, .int q_62.2.1, .int q_62.2.2.1, .int q_59.2.2.2.2.2.2.2, .int triedWith, .ref rr, .ref ss, .ref tr, .ref wa, .int undos, .ref ud, .ref sl, .ref sv])), (tx, .inl (E.2.2.1, 500, .inl text)), (td, .inl (E.2.1, 48, .inl q_62.2.2.2.2.2.2.2))] H := hP
            have hX : xD A [h, tx, td] := xD.of hD rfl
            have gv_63 : xTok textSize q_62.2.2.2.1 q_62.2.2.2.2.1 := by rw [hq_62]; exact x_twoT gv_60
            refine W.eq (g2 := F0 m 127 ls [.int q_62.1]) rfl ?_
            refine lv_if_eq (tgt := 147) hx hb dX9_statement_127 (by decide) (fun c_64 => ?_) (fun c_64 => ?_)
            · refine lv_iconst (v := 0) hx hb dX9_statement_147 (by decide) ?_
              exact x_wz (0, q_62.2.1, q_62.2.2.1, q_62.2.2.2.1, q_62.2.2.2.2.1, q_62.2.2.2.2.2.1, q_62.2.2.2.2.2.2.1, q_59.2.2.2.2.2.2.2, q_62.2.2.2.2.2.2.2) (by unfold sX9_statement; rw [if_pos c_1]; rw [if_pos c_2]; rw [if_pos c_3]; rw [if_neg c_4]; rw [← hq_59]; unfold sX9_statement_q_59; rw [if_neg c_61]; rw [← hq_62]; unfold sX9_statement_q_62; rw [if_pos c_64]; try rfl) rfl hx hb hr hlk rfl hS hP (hX.d rfl) [0, 1, 2] rfl rfl (Nat.le_of_ble_eq_true rfl) (Nat.le_of_ble_eq_true rfl) dX9_statement_148
            · refine lv_aload_n hx hb dX9_statement_130 rfl (lv_at hl 0 rfl) ?_
              refine lv_bipush (v := 7) hx hb dX9_statement_131 (by decide) ?_
              refine lv_iconst (v := 1) hx hb dX9_statement_133 (by decide) ?_
              refine lv_sipush (v := 500) hx hb dX9_statement_134 (by decide) ?_
              refine x_wV (wr := []) [.int 7, .int 1, .int 500] (kX9_sets l E h thrown nw td tx length textSize q_62.2.2.2.1 q_62.2.2.2.2.1 q_62.2.2.2.2.2.1 q_62.2.2.2.2.2.2.1 q_62.2.1 q_62.2.2.1 q_59.2.2.2.2.2.2.2 triedWith rr ss tr wa undos ud sl sv text q_62.2.2.2.2.2.2.2 7 1 500 (by decide) (by decide) gv_63) ⟨hx, hb, hml, hown, hts⟩ (cwV 3 hts gX9_statement_X9_sets rfl rfl rfl hdX9_sets ⟨Nat.le_of_ble_eq_true rfl, Nat.le_of_ble_eq_true rfl⟩) hE hP (hX.d rfl) hS hA [0, 1, 2] [] rfl rfl rfl rfl (by decide) (ci := 9) (q0 := 0) rfl rfl rfl hl.1 rfl rfl (Nat.le_of_ble_eq_true rfl) dX9_statement_137 (Nat.le_of_ble_eq_true rfl) (Nat.le_of_ble_eq_true rfl) (fun q_65 H locs hq_65 hP hD hS => ?_)
              have hP : va_P E.1 vwCl [(h, .inr (9, [.int thrown, .ref nw, .ref td, .ref tx, .int length, .int textSize, .int q_65.2.2.2.1, .int q_65.2.2.2.2.1, .int q_65.2.2.2.2.2.1, .int q_65.2.2.2.2.2.2.1, .int q_65.2.1, .int q_65.2.2.1, .int q_59.2.2.2.2.2.2.2, .int triedWith, .ref rr, .ref ss, .ref tr, .ref wa, .int undos, .ref ud, .ref sl, .ref sv])), (tx, .inl (E.2.2.1, 500, .inl text)), (td, .inl (E.2.1, 48, .inl q_65.2.2.2.2.2.2.2))] H := hP
              have hX : xD A [h, tx, td] := xD.of hD rfl
              have gv_66 : xTok textSize q_65.2.2.2.1 q_65.2.2.2.2.1 := by rw [hq_65]; exact x_setsT gv_63
              refine W.eq (g2 := F0 m 140 ls [.int q_65.1]) rfl ?_
              refine lv_if_eq (tgt := 147) hx hb dX9_statement_140 (by decide) (fun c_67 => ?_) (fun c_67 => ?_)
              · refine lv_iconst (v := 0) hx hb dX9_statement_147 (by decide) ?_
                exact x_wz (0, q_65.2.1, q_65.2.2.1, q_65.2.2.2.1, q_65.2.2.2.2.1, q_65.2.2.2.2.2.1, q_65.2.2.2.2.2.2.1, q_59.2.2.2.2.2.2.2, q_65.2.2.2.2.2.2.2) (by unfold sX9_statement; rw [if_pos c_1]; rw [if_pos c_2]; rw [if_pos c_3]; rw [if_neg c_4]; rw [← hq_59]; unfold sX9_statement_q_59; rw [if_neg c_61]; rw [← hq_62]; unfold sX9_statement_q_62; rw [if_neg c_64]; rw [← hq_65]; unfold sX9_statement_q_65; rw [if_pos c_67]; try rfl) rfl hx hb hr hlk rfl hS hP (hX.d rfl) [0, 1, 2] rfl rfl (Nat.le_of_ble_eq_true rfl) (Nat.le_of_ble_eq_true rfl) dX9_statement_148
              · refine lv_iconst (v := 1) hx hb dX9_statement_143 (by decide) ?_
                refine lv_goto (tgt := 148) hx hb dX9_statement_144 (by decide) ?_
                exact x_wz (1, q_65.2.1, q_65.2.2.1, q_65.2.2.2.1, q_65.2.2.2.2.1, q_65.2.2.2.2.2.1, q_65.2.2.2.2.2.2.1, q_59.2.2.2.2.2.2.2, q_65.2.2.2.2.2.2.2) (by unfold sX9_statement; rw [if_pos c_1]; rw [if_pos c_2]; rw [if_pos c_3]; rw [if_neg c_4]; rw [← hq_59]; unfold sX9_statement_q_59; rw [if_neg c_61]; rw [← hq_62]; unfold sX9_statement_q_62; rw [if_neg c_64]; rw [← hq_65]; unfold sX9_statement_q_65; rw [if_neg c_67]; try rfl) rfl hx hb hr hlk rfl hS hP (hX.d rfl) [0, 1, 2] rfl rfl (Nat.le_of_ble_eq_true rfl) (Nat.le_of_ble_eq_true rfl) dX9_statement_148
      · refine lv_aload_n hx hb dX9_statement_78 rfl (lv_at hl 0 rfl) ?_
        refine lv_iconst (v := 2) hx hb dX9_statement_79 (by decide) ?_
        refine x_wV (wr := [(td, .inl (E.2.1, 48, .inl told))]) [.int 2] (kX9_once l E h thrown nw td tx length textSize start next token value error errorAt seen triedWith rr ss tr wa undos ud sl sv text 2 ht) ⟨hx, hb, hml, hown, hts⟩ (cwV 1 hts gX9_statement_X9_once rfl rfl rfl hdX9_once ⟨Nat.le_of_ble_eq_true rfl, Nat.le_of_ble_eq_true rfl⟩) hE hP (hX.d rfl) hS hA [0, 1] [2] rfl rfl rfl rfl (by decide) (ci := 9) (q0 := 0) rfl rfl rfl hl.1 rfl rfl (Nat.le_of_ble_eq_true rfl) dX9_statement_80 (Nat.le_of_ble_eq_true rfl) (Nat.le_of_ble_eq_true rfl) (fun q_68 H locs hq_68 hP hD hS => ?_)
        have hP : va_P E.1 vwCl [(td, .inl (E.2.1, 48, .inl told)), (h, .inr (9, [.int thrown, .ref nw, .ref td, .ref tx, .int length, .int textSize, .int q_68.2.2.2.1, .int q_68.2.2.2.2.1, .int q_68.2.2.2.2.2.1, .int q_68.2.2.2.2.2.2.1, .int q_68.2.1, .int q_68.2.2.1, .int q_68.2.2.2.2.2.2.2, .int triedWith, .ref rr, .ref ss, .ref tr, .ref wa, .int undos, .ref ud, .ref sl, .ref sv])), (tx, .inl (E.2.2.1, 500, .inl text))] H := hP
        have hX : xD A [td, h, tx] := xD.of hD rfl
        have gv_69 : xTok textSize q_68.2.2.2.1 q_68.2.2.2.2.1 := by rw [hq_68]; exact x_onceT ht
        refine W.eq (g2 := F0 m 83 ls [.int q_68.1]) rfl ?_
        refine lv_if_eq (tgt := 101) hx hb dX9_statement_83 (by decide) (fun c_70 => ?_) (fun c_70 => ?_)
        · refine lv_iconst (v := 0) hx hb dX9_statement_101 (by decide) ?_
          exact x_wz (0, q_68.2.1, q_68.2.2.1, q_68.2.2.2.1, q_68.2.2.2.2.1, q_68.2.2.2.2.2.1, q_68.2.2.2.2.2.2.1, q_68.2.2.2.2.2.2.2, told) (by unfold sX9_statement; rw [if_pos c_1]; rw [if_pos c_2]; rw [if_neg c_3]; rw [← hq_68]; unfold sX9_statement_q_68; rw [if_pos c_70]; try rfl) rfl hx hb hr hlk rfl hS hP (hX.d rfl) [1, 2, 0] rfl rfl (Nat.le_of_ble_eq_true rfl) (Nat.le_of_ble_eq_true rfl) dX9_statement_102
        · refine lv_aload_n hx hb dX9_statement_86 rfl (lv_at hl 0 rfl) ?_
          refine lv_iconst (v := 3) hx hb dX9_statement_87 (by decide) ?_
          refine lv_sipush (v := 400) hx hb dX9_statement_88 (by decide) ?_
          refine x_wV (wr := []) [.int 3, .int 400] (kX9_two l E h thrown nw td tx length textSize q_68.2.2.2.1 q_68.2.2.2.2.1 q_68.2.2.2.2.2.1 q_68.2.2.2.2.2.2.1 q_68.2.1 q_68.2.2.1 q_68.2.2.2.2.2.2.2 triedWith rr ss tr wa undos ud sl sv text told 3 400 (by decide) (by decide) (by decide) (by decide) gv_69) ⟨hx, hb, hml, hown, hts⟩ (cwV 2 hts gX9_statement_X9_two rfl rfl rfl hdX9_two ⟨Nat.le_of_ble_eq_true rfl, Nat.le_of_ble_eq_true rfl⟩) hE hP (hX.d rfl) hS hA [1, 2, 0] [] rfl rfl rfl rfl (by decide) (ci := 9) (q0 := 1) rfl rfl rfl hl.1 rfl rfl (Nat.le_of_ble_eq_true rfl) dX9_statement_91 (Nat.le_of_ble_eq_true rfl) (Nat.le_of_ble_eq_true rfl) (fun q_71 H locs hq_71 hP hD hS => ?_)
          have hP : va_P E.1 vwCl [(h, .inr (9, [.int thrown, .ref nw, .ref td, .ref tx, .int length, .int textSize, .int q_71.2.2.2.1, .int q_71.2.2.2.2.1, .int q_71.2.2.2.2.2.1, .int q_71.2.2.2.2.2.2.1, .int q_71.2.1, .int q_71.2.2.1, .int q_68.2.2.2.2.2.2.2, .int triedWith, .ref rr, .ref ss, .ref tr, .ref wa, .int undos, .ref ud, .ref sl, .ref sv])), (tx, .inl (E.2.2.1, 500, .inl text)), (td, .inl (E.2.1, 48, .inl q_71.2.2.2.2.2.2.2))] H := hP
          have hX : xD A [h, tx, td] := xD.of hD rfl
          have gv_72 : xTok textSize q_71.2.2.2.1 q_71.2.2.2.2.1 := by rw [hq_71]; exact x_twoT gv_69
          refine W.eq (g2 := F0 m 94 ls [.int q_71.1]) rfl ?_
          refine lv_if_eq (tgt := 101) hx hb dX9_statement_94 (by decide) (fun c_73 => ?_) (fun c_73 => ?_)
          · refine lv_iconst (v := 0) hx hb dX9_statement_101 (by decide) ?_
            exact x_wz (0, q_71.2.1, q_71.2.2.1, q_71.2.2.2.1, q_71.2.2.2.2.1, q_71.2.2.2.2.2.1, q_71.2.2.2.2.2.2.1, q_68.2.2.2.2.2.2.2, q_71.2.2.2.2.2.2.2) (by unfold sX9_statement; rw [if_pos c_1]; rw [if_pos c_2]; rw [if_neg c_3]; rw [← hq_68]; unfold sX9_statement_q_68; rw [if_neg c_70]; rw [← hq_71]; unfold sX9_statement_q_71; rw [if_pos c_73]; try rfl) rfl hx hb hr hlk rfl hS hP (hX.d rfl) [0, 1, 2] rfl rfl (Nat.le_of_ble_eq_true rfl) (Nat.le_of_ble_eq_true rfl) dX9_statement_102
          · refine lv_iconst (v := 1) hx hb dX9_statement_97 (by decide) ?_
            refine lv_goto (tgt := 102) hx hb dX9_statement_98 (by decide) ?_
            exact x_wz (1, q_71.2.1, q_71.2.2.1, q_71.2.2.2.1, q_71.2.2.2.2.1, q_71.2.2.2.2.2.1, q_71.2.2.2.2.2.2.1, q_68.2.2.2.2.2.2.2, q_71.2.2.2.2.2.2.2) (by unfold sX9_statement; rw [if_pos c_1]; rw [if_pos c_2]; rw [if_neg c_3]; rw [← hq_68]; unfold sX9_statement_q_68; rw [if_neg c_70]; rw [← hq_71]; unfold sX9_statement_q_71; rw [if_neg c_73]; try rfl) rfl hx hb hr hlk rfl hS hP (hX.d rfl) [0, 1, 2] rfl rfl (Nat.le_of_ble_eq_true rfl) (Nat.le_of_ble_eq_true rfl) dX9_statement_102
    · refine lv_aload_n hx hb dX9_statement_44 rfl (lv_at hl 0 rfl) ?_
      refine lv_iconst (v := 1) hx hb dX9_statement_45 (by decide) ?_
      refine x_wV (wr := [(td, .inl (E.2.1, 48, .inl told))]) [.int 1] (kX9_once l E h thrown nw td tx length textSize start next token value error errorAt seen triedWith rr ss tr wa undos ud sl sv text 1 ht) ⟨hx, hb, hml, hown, hts⟩ (cwV 1 hts gX9_statement_X9_once rfl rfl rfl hdX9_once ⟨Nat.le_of_ble_eq_true rfl, Nat.le_of_ble_eq_true rfl⟩) hE hP (hX.d rfl) hS hA [0, 1] [2] rfl rfl rfl rfl (by decide) (ci := 9) (q0 := 0) rfl rfl rfl hl.1 rfl rfl (Nat.le_of_ble_eq_true rfl) dX9_statement_46 (Nat.le_of_ble_eq_true rfl) (Nat.le_of_ble_eq_true rfl) (fun q_74 H locs hq_74 hP hD hS => ?_)
      have hP : va_P E.1 vwCl [(td, .inl (E.2.1, 48, .inl told)), (h, .inr (9, [.int thrown, .ref nw, .ref td, .ref tx, .int length, .int textSize, .int q_74.2.2.2.1, .int q_74.2.2.2.2.1, .int q_74.2.2.2.2.2.1, .int q_74.2.2.2.2.2.2.1, .int q_74.2.1, .int q_74.2.2.1, .int q_74.2.2.2.2.2.2.2, .int triedWith, .ref rr, .ref ss, .ref tr, .ref wa, .int undos, .ref ud, .ref sl, .ref sv])), (tx, .inl (E.2.2.1, 500, .inl text))] H := hP
      have hX : xD A [td, h, tx] := xD.of hD rfl
      have gv_75 : xTok textSize q_74.2.2.2.1 q_74.2.2.2.2.1 := by rw [hq_74]; exact x_onceT ht
      refine W.eq (g2 := F0 m 49 ls [.int q_74.1]) rfl ?_
      refine lv_if_eq (tgt := 67) hx hb dX9_statement_49 (by decide) (fun c_76 => ?_) (fun c_76 => ?_)
      · refine lv_iconst (v := 0) hx hb dX9_statement_67 (by decide) ?_
        exact x_wz (0, q_74.2.1, q_74.2.2.1, q_74.2.2.2.1, q_74.2.2.2.2.1, q_74.2.2.2.2.2.1, q_74.2.2.2.2.2.2.1, q_74.2.2.2.2.2.2.2, told) (by unfold sX9_statement; rw [if_pos c_1]; rw [if_neg c_2]; rw [← hq_74]; unfold sX9_statement_q_74; rw [if_pos c_76]; try rfl) rfl hx hb hr hlk rfl hS hP (hX.d rfl) [1, 2, 0] rfl rfl (Nat.le_of_ble_eq_true rfl) (Nat.le_of_ble_eq_true rfl) dX9_statement_68
      · refine lv_aload_n hx hb dX9_statement_52 rfl (lv_at hl 0 rfl) ?_
        refine lv_iconst (v := 1) hx hb dX9_statement_53 (by decide) ?_
        refine lv_sipush (v := 200) hx hb dX9_statement_54 (by decide) ?_
        refine x_wV (wr := []) [.int 1, .int 200] (kX9_two l E h thrown nw td tx length textSize q_74.2.2.2.1 q_74.2.2.2.2.1 q_74.2.2.2.2.2.1 q_74.2.2.2.2.2.2.1 q_74.2.1 q_74.2.2.1 q_74.2.2.2.2.2.2.2 triedWith rr ss tr wa undos ud sl sv text told 1 200 (by decide) (by decide) (by decide) (by decide) gv_75) ⟨hx, hb, hml, hown, hts⟩ (cwV 2 hts gX9_statement_X9_two rfl rfl rfl hdX9_two ⟨Nat.le_of_ble_eq_true rfl, Nat.le_of_ble_eq_true rfl⟩) hE hP (hX.d rfl) hS hA [1, 2, 0] [] rfl rfl rfl rfl (by decide) (ci := 9) (q0 := 1) rfl rfl rfl hl.1 rfl rfl (Nat.le_of_ble_eq_true rfl) dX9_statement_57 (Nat.le_of_ble_eq_true rfl) (Nat.le_of_ble_eq_true rfl) (fun q_77 H locs hq_77 hP hD hS => ?_)
        have hP : va_P E.1 vwCl [(h, .inr (9, [.int thrown, .ref nw, .ref td, .ref tx, .int length, .int textSize, .int q_77.2.2.2.1, .int q_77.2.2.2.2.1, .int q_77.2.2.2.2.2.1, .int q_77.2.2.2.2.2.2.1, .int q_77.2.1, .int q_77.2.2.1, .int q_74.2.2.2.2.2.2.2, .int triedWith, .ref rr, .ref ss, .ref tr, .ref wa, .int undos, .ref ud, .ref sl, .ref sv])), (tx, .inl (E.2.2.1, 500, .inl text)), (td, .inl (E.2.1, 48, .inl q_77.2.2.2.2.2.2.2))] H := hP
        have hX : xD A [h, tx, td] := xD.of hD rfl
        have gv_78 : xTok textSize q_77.2.2.2.1 q_77.2.2.2.2.1 := by rw [hq_77]; exact x_twoT gv_75
        refine W.eq (g2 := F0 m 60 ls [.int q_77.1]) rfl ?_
        refine lv_if_eq (tgt := 67) hx hb dX9_statement_60 (by decide) (fun c_79 => ?_) (fun c_79 => ?_)
        · refine lv_iconst (v := 0) hx hb dX9_statement_67 (by decide) ?_
          exact x_wz (0, q_77.2.1, q_77.2.2.1, q_77.2.2.2.1, q_77.2.2.2.2.1, q_77.2.2.2.2.2.1, q_77.2.2.2.2.2.2.1, q_74.2.2.2.2.2.2.2, q_77.2.2.2.2.2.2.2) (by unfold sX9_statement; rw [if_pos c_1]; rw [if_neg c_2]; rw [← hq_74]; unfold sX9_statement_q_74; rw [if_neg c_76]; rw [← hq_77]; unfold sX9_statement_q_77; rw [if_pos c_79]; try rfl) rfl hx hb hr hlk rfl hS hP (hX.d rfl) [0, 1, 2] rfl rfl (Nat.le_of_ble_eq_true rfl) (Nat.le_of_ble_eq_true rfl) dX9_statement_68
        · refine lv_iconst (v := 1) hx hb dX9_statement_63 (by decide) ?_
          refine lv_goto (tgt := 68) hx hb dX9_statement_64 (by decide) ?_
          exact x_wz (1, q_77.2.1, q_77.2.2.1, q_77.2.2.2.1, q_77.2.2.2.2.1, q_77.2.2.2.2.2.1, q_77.2.2.2.2.2.2.1, q_74.2.2.2.2.2.2.2, q_77.2.2.2.2.2.2.2) (by unfold sX9_statement; rw [if_pos c_1]; rw [if_neg c_2]; rw [← hq_74]; unfold sX9_statement_q_74; rw [if_neg c_76]; rw [← hq_77]; unfold sX9_statement_q_77; rw [if_neg c_79]; try rfl) rfl hx hb hr hlk rfl hS hP (hX.d rfl) [0, 1, 2] rfl rfl (Nat.le_of_ble_eq_true rfl) (Nat.le_of_ble_eq_true rfl) dX9_statement_68
  · refine lv_aload_n hx hb dX9_statement_9 rfl (lv_at hl 0 rfl) ?_
    refine lv_iconst (v := 0) hx hb dX9_statement_10 (by decide) ?_
    refine x_wV (wr := [(td, .inl (E.2.1, 48, .inl told))]) [.int 0] (kX9_once l E h thrown nw td tx length textSize start next token value error errorAt seen triedWith rr ss tr wa undos ud sl sv text 0 ht) ⟨hx, hb, hml, hown, hts⟩ (cwV 1 hts gX9_statement_X9_once rfl rfl rfl hdX9_once ⟨Nat.le_of_ble_eq_true rfl, Nat.le_of_ble_eq_true rfl⟩) hE hP (hX.d rfl) hS hA [0, 1] [2] rfl rfl rfl rfl (by decide) (ci := 9) (q0 := 0) rfl rfl rfl hl.1 rfl rfl (Nat.le_of_ble_eq_true rfl) dX9_statement_11 (Nat.le_of_ble_eq_true rfl) (Nat.le_of_ble_eq_true rfl) (fun q_80 H locs hq_80 hP hD hS => ?_)
    have hP : va_P E.1 vwCl [(td, .inl (E.2.1, 48, .inl told)), (h, .inr (9, [.int thrown, .ref nw, .ref td, .ref tx, .int length, .int textSize, .int q_80.2.2.2.1, .int q_80.2.2.2.2.1, .int q_80.2.2.2.2.2.1, .int q_80.2.2.2.2.2.2.1, .int q_80.2.1, .int q_80.2.2.1, .int q_80.2.2.2.2.2.2.2, .int triedWith, .ref rr, .ref ss, .ref tr, .ref wa, .int undos, .ref ud, .ref sl, .ref sv])), (tx, .inl (E.2.2.1, 500, .inl text))] H := hP
    have hX : xD A [td, h, tx] := xD.of hD rfl
    have gv_81 : xTok textSize q_80.2.2.2.1 q_80.2.2.2.2.1 := by rw [hq_80]; exact x_onceT ht
    refine W.eq (g2 := F0 m 14 ls [.int q_80.1]) rfl ?_
    refine lv_if_eq (tgt := 33) hx hb dX9_statement_14 (by decide) (fun c_82 => ?_) (fun c_82 => ?_)
    · refine lv_iconst (v := 0) hx hb dX9_statement_33 (by decide) ?_
      exact x_wz (0, q_80.2.1, q_80.2.2.1, q_80.2.2.2.1, q_80.2.2.2.2.1, q_80.2.2.2.2.2.1, q_80.2.2.2.2.2.2.1, q_80.2.2.2.2.2.2.2, told) (by unfold sX9_statement; rw [if_neg c_1]; rw [← hq_80]; unfold sX9_statement_q_80; rw [if_pos c_82]; try rfl) rfl hx hb hr hlk rfl hS hP (hX.d rfl) [1, 2, 0] rfl rfl (Nat.le_of_ble_eq_true rfl) (Nat.le_of_ble_eq_true rfl) dX9_statement_34
    · refine lv_aload_n hx hb dX9_statement_17 rfl (lv_at hl 0 rfl) ?_
      refine lv_iconst (v := 0) hx hb dX9_statement_18 (by decide) ?_
      refine lv_iconst (v := 1) hx hb dX9_statement_19 (by decide) ?_
      refine lv_sipush (v := 9999) hx hb dX9_statement_20 (by decide) ?_
      refine x_wV (wr := []) [.int 0, .int 1, .int 9999] (kX9_sets l E h thrown nw td tx length textSize q_80.2.2.2.1 q_80.2.2.2.2.1 q_80.2.2.2.2.2.1 q_80.2.2.2.2.2.2.1 q_80.2.1 q_80.2.2.1 q_80.2.2.2.2.2.2.2 triedWith rr ss tr wa undos ud sl sv text told 0 1 9999 (by decide) (by decide) gv_81) ⟨hx, hb, hml, hown, hts⟩ (cwV 3 hts gX9_statement_X9_sets rfl rfl rfl hdX9_sets ⟨Nat.le_of_ble_eq_true rfl, Nat.le_of_ble_eq_true rfl⟩) hE hP (hX.d rfl) hS hA [1, 2, 0] [] rfl rfl rfl rfl (by decide) (ci := 9) (q0 := 1) rfl rfl rfl hl.1 rfl rfl (Nat.le_of_ble_eq_true rfl) dX9_statement_23 (Nat.le_of_ble_eq_true rfl) (Nat.le_of_ble_eq_true rfl) (fun q_83 H locs hq_83 hP hD hS => ?_)
      have hP : va_P E.1 vwCl [(h, .inr (9, [.int thrown, .ref nw, .ref td, .ref tx, .int length, .int textSize, .int q_83.2.2.2.1, .int q_83.2.2.2.2.1, .int q_83.2.2.2.2.2.1, .int q_83.2.2.2.2.2.2.1, .int q_83.2.1, .int q_83.2.2.1, .int q_80.2.2.2.2.2.2.2, .int triedWith, .ref rr, .ref ss, .ref tr, .ref wa, .int undos, .ref ud, .ref sl, .ref sv])), (tx, .inl (E.2.2.1, 500, .inl text)), (td, .inl (E.2.1, 48, .inl q_83.2.2.2.2.2.2.2))] H := hP
      have hX : xD A [h, tx, td] := xD.of hD rfl
      have gv_84 : xTok textSize q_83.2.2.2.1 q_83.2.2.2.2.1 := by rw [hq_83]; exact x_setsT gv_81
      refine W.eq (g2 := F0 m 26 ls [.int q_83.1]) rfl ?_
      refine lv_if_eq (tgt := 33) hx hb dX9_statement_26 (by decide) (fun c_85 => ?_) (fun c_85 => ?_)
      · refine lv_iconst (v := 0) hx hb dX9_statement_33 (by decide) ?_
        exact x_wz (0, q_83.2.1, q_83.2.2.1, q_83.2.2.2.1, q_83.2.2.2.2.1, q_83.2.2.2.2.2.1, q_83.2.2.2.2.2.2.1, q_80.2.2.2.2.2.2.2, q_83.2.2.2.2.2.2.2) (by unfold sX9_statement; rw [if_neg c_1]; rw [← hq_80]; unfold sX9_statement_q_80; rw [if_neg c_82]; rw [← hq_83]; unfold sX9_statement_q_83; rw [if_pos c_85]; try rfl) rfl hx hb hr hlk rfl hS hP (hX.d rfl) [0, 1, 2] rfl rfl (Nat.le_of_ble_eq_true rfl) (Nat.le_of_ble_eq_true rfl) dX9_statement_34
      · refine lv_iconst (v := 1) hx hb dX9_statement_29 (by decide) ?_
        refine lv_goto (tgt := 34) hx hb dX9_statement_30 (by decide) ?_
        exact x_wz (1, q_83.2.1, q_83.2.2.1, q_83.2.2.2.1, q_83.2.2.2.2.1, q_83.2.2.2.2.2.1, q_83.2.2.2.2.2.2.1, q_80.2.2.2.2.2.2.2, q_83.2.2.2.2.2.2.2) (by unfold sX9_statement; rw [if_neg c_1]; rw [← hq_80]; unfold sX9_statement_q_80; rw [if_neg c_82]; rw [← hq_83]; unfold sX9_statement_q_83; rw [if_neg c_85]; try rfl) rfl hx hb hr hlk rfl hS hP (hX.d rfl) [0, 1, 2] rfl rfl (Nat.le_of_ble_eq_true rfl) (Nat.le_of_ble_eq_true rfl) dX9_statement_34
theorem x_st_10 {textSize : Int32} {start : Int32} {next : Int32} {token : Int32} {value : Int32} {error : Int32} {errorAt : Int32} {seen : Int32} {text : Nat → Int32} {told : Nat → Int32} {q_10 : Int32 × Int32} (h : xTok textSize start next) : xTok textSize (sX9_statement_q_10 textSize start next token value error errorAt seen text told q_10).2.2.2.1 (sX9_statement_q_10 textSize start next token value error errorAt seen text told q_10).2.2.2.2.1 := by
  unfold sX9_statement_q_10
  exact h
theorem x_st_20 {textSize : Int32} {start : Int32} {next : Int32} {token : Int32} {value : Int32} {error : Int32} {errorAt : Int32} {seen : Int32} {text : Nat → Int32} {told : Nat → Int32} {q_11 : Int32 × Int32 × Int32 × Int32 × Int32 × Int32 × Int32 × Int32} {q_14 : Int32 × Int32 × Int32 × Int32 × Int32 × Int32 × Int32 × (Nat → Int32)} {q_17 : Int32 × Int32 × Int32 × Int32 × Int32 × Int32 × Int32 × (Nat → Int32)} {q_20 : Int32 × Int32 × Int32 × Int32 × Int32 × Int32 × Int32 × (Nat → Int32)} (h : xTok textSize q_20.2.2.2.1 q_20.2.2.2.2.1) : xTok textSize (sX9_statement_q_20 textSize start next token value error errorAt seen text told q_11 q_14 q_17 q_20).2.2.2.1 (sX9_statement_q_20 textSize start next token value error errorAt seen text told q_11 q_14 q_17 q_20).2.2.2.2.1 := by
  unfold sX9_statement_q_20
  split
  · exact h
  · exact h
theorem x_st_17 {textSize : Int32} {start : Int32} {next : Int32} {token : Int32} {value : Int32} {error : Int32} {errorAt : Int32} {seen : Int32} {text : Nat → Int32} {told : Nat → Int32} {q_11 : Int32 × Int32 × Int32 × Int32 × Int32 × Int32 × Int32 × Int32} {q_14 : Int32 × Int32 × Int32 × Int32 × Int32 × Int32 × Int32 × (Nat → Int32)} {q_17 : Int32 × Int32 × Int32 × Int32 × Int32 × Int32 × Int32 × (Nat → Int32)} (h : xTok textSize q_17.2.2.2.1 q_17.2.2.2.2.1) : xTok textSize (sX9_statement_q_17 textSize start next token value error errorAt seen text told q_11 q_14 q_17).2.2.2.1 (sX9_statement_q_17 textSize start next token value error errorAt seen text told q_11 q_14 q_17).2.2.2.2.1 := by
  unfold sX9_statement_q_17
  split
  · exact h
  · exact x_st_20 (x_setsT h)
theorem x_st_14 {textSize : Int32} {start : Int32} {next : Int32} {token : Int32} {value : Int32} {error : Int32} {errorAt : Int32} {seen : Int32} {text : Nat → Int32} {told : Nat → Int32} {q_11 : Int32 × Int32 × Int32 × Int32 × Int32 × Int32 × Int32 × Int32} {q_14 : Int32 × Int32 × Int32 × Int32 × Int32 × Int32 × Int32 × (Nat → Int32)} (h : xTok textSize q_14.2.2.2.1 q_14.2.2.2.2.1) : xTok textSize (sX9_statement_q_14 textSize start next token value error errorAt seen text told q_11 q_14).2.2.2.1 (sX9_statement_q_14 textSize start next token value error errorAt seen text told q_11 q_14).2.2.2.2.1 := by
  unfold sX9_statement_q_14
  split
  · exact h
  · exact x_st_17 (x_setsT h)
theorem x_st_11 {textSize : Int32} {start : Int32} {next : Int32} {token : Int32} {value : Int32} {error : Int32} {errorAt : Int32} {seen : Int32} {text : Nat → Int32} {told : Nat → Int32} {q_11 : Int32 × Int32 × Int32 × Int32 × Int32 × Int32 × Int32 × Int32} (h : xTok textSize q_11.2.2.2.1 q_11.2.2.2.2.1) : xTok textSize (sX9_statement_q_11 textSize start next token value error errorAt seen text told q_11).2.2.2.1 (sX9_statement_q_11 textSize start next token value error errorAt seen text told q_11).2.2.2.2.1 := by
  unfold sX9_statement_q_11
  split
  · exact h
  · exact x_st_14 (x_setsT h)
theorem x_st_29 {textSize : Int32} {start : Int32} {next : Int32} {token : Int32} {value : Int32} {error : Int32} {errorAt : Int32} {seen : Int32} {text : Nat → Int32} {told : Nat → Int32} {q_23 : Int32 × Int32 × Int32 × Int32 × Int32 × Int32 × Int32 × Int32} {q_26 : Int32 × Int32 × Int32 × Int32 × Int32 × Int32 × Int32 × (Nat → Int32)} {q_29 : Int32 × Int32 × Int32 × Int32 × Int32 × Int32 × Int32 × (Nat → Int32)} (h : xTok textSize q_29.2.2.2.1 q_29.2.2.2.2.1) : xTok textSize (sX9_statement_q_29 textSize start next token value error errorAt seen text told q_23 q_26 q_29).2.2.2.1 (sX9_statement_q_29 textSize start next token value error errorAt seen text told q_23 q_26 q_29).2.2.2.2.1 := by
  unfold sX9_statement_q_29
  split
  · exact h
  · exact h
theorem x_st_26 {textSize : Int32} {start : Int32} {next : Int32} {token : Int32} {value : Int32} {error : Int32} {errorAt : Int32} {seen : Int32} {text : Nat → Int32} {told : Nat → Int32} {q_23 : Int32 × Int32 × Int32 × Int32 × Int32 × Int32 × Int32 × Int32} {q_26 : Int32 × Int32 × Int32 × Int32 × Int32 × Int32 × Int32 × (Nat → Int32)} (h : xTok textSize q_26.2.2.2.1 q_26.2.2.2.2.1) : xTok textSize (sX9_statement_q_26 textSize start next token value error errorAt seen text told q_23 q_26).2.2.2.1 (sX9_statement_q_26 textSize start next token value error errorAt seen text told q_23 q_26).2.2.2.2.1 := by
  unfold sX9_statement_q_26
  split
  · exact h
  · exact x_st_29 (x_setsT h)
theorem x_st_23 {textSize : Int32} {start : Int32} {next : Int32} {token : Int32} {value : Int32} {error : Int32} {errorAt : Int32} {seen : Int32} {text : Nat → Int32} {told : Nat → Int32} {q_23 : Int32 × Int32 × Int32 × Int32 × Int32 × Int32 × Int32 × Int32} (h : xTok textSize q_23.2.2.2.1 q_23.2.2.2.2.1) : xTok textSize (sX9_statement_q_23 textSize start next token value error errorAt seen text told q_23).2.2.2.1 (sX9_statement_q_23 textSize start next token value error errorAt seen text told q_23).2.2.2.2.1 := by
  unfold sX9_statement_q_23
  split
  · exact h
  · exact x_st_26 (x_setsT h)
theorem x_st_44 {textSize : Int32} {start : Int32} {next : Int32} {token : Int32} {value : Int32} {error : Int32} {errorAt : Int32} {seen : Int32} {text : Nat → Int32} {told : Nat → Int32} {q_32 : Int32 × Int32 × Int32 × Int32 × Int32 × Int32 × Int32 × Int32} {q_35 : Int32 × Int32 × Int32 × Int32 × Int32 × Int32 × Int32 × (Nat → Int32)} {q_38 : Int32 × Int32 × Int32 × Int32 × Int32 × Int32 × Int32 × (Nat → Int32)} {q_41 : Int32 × Int32 × Int32 × Int32 × Int32 × Int32 × Int32 × (Nat → Int32)} {q_44 : Int32 × Int32 × Int32 × Int32 × Int32 × Int32 × Int32 × (Nat → Int32)} (h : xTok textSize q_44.2.2.2.1 q_44.2.2.2.2.1) : xTok textSize (sX9_statement_q_44 textSize start next token value error errorAt seen text told q_32 q_35 q_38 q_41 q_44).2.2.2.1 (sX9_statement_q_44 textSize start next token value error errorAt seen text told q_32 q_35 q_38 q_41 q_44).2.2.2.2.1 := by
  unfold sX9_statement_q_44
  split
  · exact h
  · exact h
theorem x_st_41 {textSize : Int32} {start : Int32} {next : Int32} {token : Int32} {value : Int32} {error : Int32} {errorAt : Int32} {seen : Int32} {text : Nat → Int32} {told : Nat → Int32} {q_32 : Int32 × Int32 × Int32 × Int32 × Int32 × Int32 × Int32 × Int32} {q_35 : Int32 × Int32 × Int32 × Int32 × Int32 × Int32 × Int32 × (Nat → Int32)} {q_38 : Int32 × Int32 × Int32 × Int32 × Int32 × Int32 × Int32 × (Nat → Int32)} {q_41 : Int32 × Int32 × Int32 × Int32 × Int32 × Int32 × Int32 × (Nat → Int32)} (h : xTok textSize q_41.2.2.2.1 q_41.2.2.2.2.1) : xTok textSize (sX9_statement_q_41 textSize start next token value error errorAt seen text told q_32 q_35 q_38 q_41).2.2.2.1 (sX9_statement_q_41 textSize start next token value error errorAt seen text told q_32 q_35 q_38 q_41).2.2.2.2.1 := by
  unfold sX9_statement_q_41
  split
  · exact h
  · exact x_st_44 (x_setsT h)
theorem x_st_38 {textSize : Int32} {start : Int32} {next : Int32} {token : Int32} {value : Int32} {error : Int32} {errorAt : Int32} {seen : Int32} {text : Nat → Int32} {told : Nat → Int32} {q_32 : Int32 × Int32 × Int32 × Int32 × Int32 × Int32 × Int32 × Int32} {q_35 : Int32 × Int32 × Int32 × Int32 × Int32 × Int32 × Int32 × (Nat → Int32)} {q_38 : Int32 × Int32 × Int32 × Int32 × Int32 × Int32 × Int32 × (Nat → Int32)} (h : xTok textSize q_38.2.2.2.1 q_38.2.2.2.2.1) : xTok textSize (sX9_statement_q_38 textSize start next token value error errorAt seen text told q_32 q_35 q_38).2.2.2.1 (sX9_statement_q_38 textSize start next token value error errorAt seen text told q_32 q_35 q_38).2.2.2.2.1 := by
  unfold sX9_statement_q_38
  split
  · exact h
  · exact x_st_41 (x_setsT h)
theorem x_st_35 {textSize : Int32} {start : Int32} {next : Int32} {token : Int32} {value : Int32} {error : Int32} {errorAt : Int32} {seen : Int32} {text : Nat → Int32} {told : Nat → Int32} {q_32 : Int32 × Int32 × Int32 × Int32 × Int32 × Int32 × Int32 × Int32} {q_35 : Int32 × Int32 × Int32 × Int32 × Int32 × Int32 × Int32 × (Nat → Int32)} (h : xTok textSize q_35.2.2.2.1 q_35.2.2.2.2.1) : xTok textSize (sX9_statement_q_35 textSize start next token value error errorAt seen text told q_32 q_35).2.2.2.1 (sX9_statement_q_35 textSize start next token value error errorAt seen text told q_32 q_35).2.2.2.2.1 := by
  unfold sX9_statement_q_35
  split
  · exact h
  · exact x_st_38 (x_setsT h)
theorem x_st_32 {textSize : Int32} {start : Int32} {next : Int32} {token : Int32} {value : Int32} {error : Int32} {errorAt : Int32} {seen : Int32} {text : Nat → Int32} {told : Nat → Int32} {q_32 : Int32 × Int32 × Int32 × Int32 × Int32 × Int32 × Int32 × Int32} (h : xTok textSize q_32.2.2.2.1 q_32.2.2.2.2.1) : xTok textSize (sX9_statement_q_32 textSize start next token value error errorAt seen text told q_32).2.2.2.1 (sX9_statement_q_32 textSize start next token value error errorAt seen text told q_32).2.2.2.2.1 := by
  unfold sX9_statement_q_32
  split
  · exact h
  · exact x_st_35 (x_setsT h)
theorem x_st_50 {textSize : Int32} {start : Int32} {next : Int32} {token : Int32} {value : Int32} {error : Int32} {errorAt : Int32} {seen : Int32} {text : Nat → Int32} {told : Nat → Int32} {q_47 : Int32 × Int32 × Int32 × Int32 × Int32 × Int32 × Int32 × Int32} {q_50 : Int32 × Int32 × Int32 × Int32 × Int32 × Int32 × Int32 × (Nat → Int32)} (h : xTok textSize q_50.2.2.2.1 q_50.2.2.2.2.1) : xTok textSize (sX9_statement_q_50 textSize start next token value error errorAt seen text told q_47 q_50).2.2.2.1 (sX9_statement_q_50 textSize start next token value error errorAt seen text told q_47 q_50).2.2.2.2.1 := by
  unfold sX9_statement_q_50
  split
  · exact h
  · exact h
theorem x_st_47 {textSize : Int32} {start : Int32} {next : Int32} {token : Int32} {value : Int32} {error : Int32} {errorAt : Int32} {seen : Int32} {text : Nat → Int32} {told : Nat → Int32} {q_47 : Int32 × Int32 × Int32 × Int32 × Int32 × Int32 × Int32 × Int32} (h : xTok textSize q_47.2.2.2.1 q_47.2.2.2.2.1) : xTok textSize (sX9_statement_q_47 textSize start next token value error errorAt seen text told q_47).2.2.2.1 (sX9_statement_q_47 textSize start next token value error errorAt seen text told q_47).2.2.2.2.1 := by
  unfold sX9_statement_q_47
  split
  · exact h
  · exact x_st_50 (x_gainsT h)
theorem x_st_56 {textSize : Int32} {start : Int32} {next : Int32} {token : Int32} {value : Int32} {error : Int32} {errorAt : Int32} {seen : Int32} {text : Nat → Int32} {told : Nat → Int32} {q_53 : Int32 × Int32 × Int32 × Int32 × Int32 × Int32 × Int32 × Int32} {q_56 : Int32 × Int32 × Int32 × Int32 × Int32 × Int32 × Int32 × (Nat → Int32)} (h : xTok textSize q_56.2.2.2.1 q_56.2.2.2.2.1) : xTok textSize (sX9_statement_q_56 textSize start next token value error errorAt seen text told q_53 q_56).2.2.2.1 (sX9_statement_q_56 textSize start next token value error errorAt seen text told q_53 q_56).2.2.2.2.1 := by
  unfold sX9_statement_q_56
  split
  · exact h
  · exact h
theorem x_st_53 {textSize : Int32} {start : Int32} {next : Int32} {token : Int32} {value : Int32} {error : Int32} {errorAt : Int32} {seen : Int32} {text : Nat → Int32} {told : Nat → Int32} {q_53 : Int32 × Int32 × Int32 × Int32 × Int32 × Int32 × Int32 × Int32} (h : xTok textSize q_53.2.2.2.1 q_53.2.2.2.2.1) : xTok textSize (sX9_statement_q_53 textSize start next token value error errorAt seen text told q_53).2.2.2.1 (sX9_statement_q_53 textSize start next token value error errorAt seen text told q_53).2.2.2.2.1 := by
  unfold sX9_statement_q_53
  split
  · exact h
  · exact x_st_56 (x_setsT h)
theorem x_st_65 {textSize : Int32} {start : Int32} {next : Int32} {token : Int32} {value : Int32} {error : Int32} {errorAt : Int32} {seen : Int32} {text : Nat → Int32} {told : Nat → Int32} {q_59 : Int32 × Int32 × Int32 × Int32 × Int32 × Int32 × Int32 × Int32} {q_62 : Int32 × Int32 × Int32 × Int32 × Int32 × Int32 × Int32 × (Nat → Int32)} {q_65 : Int32 × Int32 × Int32 × Int32 × Int32 × Int32 × Int32 × (Nat → Int32)} (h : xTok textSize q_65.2.2.2.1 q_65.2.2.2.2.1) : xTok textSize (sX9_statement_q_65 textSize start next token value error errorAt seen text told q_59 q_62 q_65).2.2.2.1 (sX9_statement_q_65 textSize start next token value error errorAt seen text told q_59 q_62 q_65).2.2.2.2.1 := by
  unfold sX9_statement_q_65
  split
  · exact h
  · exact h
theorem x_st_62 {textSize : Int32} {start : Int32} {next : Int32} {token : Int32} {value : Int32} {error : Int32} {errorAt : Int32} {seen : Int32} {text : Nat → Int32} {told : Nat → Int32} {q_59 : Int32 × Int32 × Int32 × Int32 × Int32 × Int32 × Int32 × Int32} {q_62 : Int32 × Int32 × Int32 × Int32 × Int32 × Int32 × Int32 × (Nat → Int32)} (h : xTok textSize q_62.2.2.2.1 q_62.2.2.2.2.1) : xTok textSize (sX9_statement_q_62 textSize start next token value error errorAt seen text told q_59 q_62).2.2.2.1 (sX9_statement_q_62 textSize start next token value error errorAt seen text told q_59 q_62).2.2.2.2.1 := by
  unfold sX9_statement_q_62
  split
  · exact h
  · exact x_st_65 (x_setsT h)
theorem x_st_59 {textSize : Int32} {start : Int32} {next : Int32} {token : Int32} {value : Int32} {error : Int32} {errorAt : Int32} {seen : Int32} {text : Nat → Int32} {told : Nat → Int32} {q_59 : Int32 × Int32 × Int32 × Int32 × Int32 × Int32 × Int32 × Int32} (h : xTok textSize q_59.2.2.2.1 q_59.2.2.2.2.1) : xTok textSize (sX9_statement_q_59 textSize start next token value error errorAt seen text told q_59).2.2.2.1 (sX9_statement_q_59 textSize start next token value error errorAt seen text told q_59).2.2.2.2.1 := by
  unfold sX9_statement_q_59
  split
  · exact h
  · exact x_st_62 (x_twoT h)
theorem x_st_71 {textSize : Int32} {start : Int32} {next : Int32} {token : Int32} {value : Int32} {error : Int32} {errorAt : Int32} {seen : Int32} {text : Nat → Int32} {told : Nat → Int32} {q_68 : Int32 × Int32 × Int32 × Int32 × Int32 × Int32 × Int32 × Int32} {q_71 : Int32 × Int32 × Int32 × Int32 × Int32 × Int32 × Int32 × (Nat → Int32)} (h : xTok textSize q_71.2.2.2.1 q_71.2.2.2.2.1) : xTok textSize (sX9_statement_q_71 textSize start next token value error errorAt seen text told q_68 q_71).2.2.2.1 (sX9_statement_q_71 textSize start next token value error errorAt seen text told q_68 q_71).2.2.2.2.1 := by
  unfold sX9_statement_q_71
  split
  · exact h
  · exact h
theorem x_st_68 {textSize : Int32} {start : Int32} {next : Int32} {token : Int32} {value : Int32} {error : Int32} {errorAt : Int32} {seen : Int32} {text : Nat → Int32} {told : Nat → Int32} {q_68 : Int32 × Int32 × Int32 × Int32 × Int32 × Int32 × Int32 × Int32} (h : xTok textSize q_68.2.2.2.1 q_68.2.2.2.2.1) : xTok textSize (sX9_statement_q_68 textSize start next token value error errorAt seen text told q_68).2.2.2.1 (sX9_statement_q_68 textSize start next token value error errorAt seen text told q_68).2.2.2.2.1 := by
  unfold sX9_statement_q_68
  split
  · exact h
  · exact x_st_71 (x_twoT h)
theorem x_st_77 {textSize : Int32} {start : Int32} {next : Int32} {token : Int32} {value : Int32} {error : Int32} {errorAt : Int32} {seen : Int32} {text : Nat → Int32} {told : Nat → Int32} {q_74 : Int32 × Int32 × Int32 × Int32 × Int32 × Int32 × Int32 × Int32} {q_77 : Int32 × Int32 × Int32 × Int32 × Int32 × Int32 × Int32 × (Nat → Int32)} (h : xTok textSize q_77.2.2.2.1 q_77.2.2.2.2.1) : xTok textSize (sX9_statement_q_77 textSize start next token value error errorAt seen text told q_74 q_77).2.2.2.1 (sX9_statement_q_77 textSize start next token value error errorAt seen text told q_74 q_77).2.2.2.2.1 := by
  unfold sX9_statement_q_77
  split
  · exact h
  · exact h
theorem x_st_74 {textSize : Int32} {start : Int32} {next : Int32} {token : Int32} {value : Int32} {error : Int32} {errorAt : Int32} {seen : Int32} {text : Nat → Int32} {told : Nat → Int32} {q_74 : Int32 × Int32 × Int32 × Int32 × Int32 × Int32 × Int32 × Int32} (h : xTok textSize q_74.2.2.2.1 q_74.2.2.2.2.1) : xTok textSize (sX9_statement_q_74 textSize start next token value error errorAt seen text told q_74).2.2.2.1 (sX9_statement_q_74 textSize start next token value error errorAt seen text told q_74).2.2.2.2.1 := by
  unfold sX9_statement_q_74
  split
  · exact h
  · exact x_st_77 (x_twoT h)
theorem x_st_83 {textSize : Int32} {start : Int32} {next : Int32} {token : Int32} {value : Int32} {error : Int32} {errorAt : Int32} {seen : Int32} {text : Nat → Int32} {told : Nat → Int32} {q_80 : Int32 × Int32 × Int32 × Int32 × Int32 × Int32 × Int32 × Int32} {q_83 : Int32 × Int32 × Int32 × Int32 × Int32 × Int32 × Int32 × (Nat → Int32)} (h : xTok textSize q_83.2.2.2.1 q_83.2.2.2.2.1) : xTok textSize (sX9_statement_q_83 textSize start next token value error errorAt seen text told q_80 q_83).2.2.2.1 (sX9_statement_q_83 textSize start next token value error errorAt seen text told q_80 q_83).2.2.2.2.1 := by
  unfold sX9_statement_q_83
  split
  · exact h
  · exact h
theorem x_st_80 {textSize : Int32} {start : Int32} {next : Int32} {token : Int32} {value : Int32} {error : Int32} {errorAt : Int32} {seen : Int32} {text : Nat → Int32} {told : Nat → Int32} {q_80 : Int32 × Int32 × Int32 × Int32 × Int32 × Int32 × Int32 × Int32} (h : xTok textSize q_80.2.2.2.1 q_80.2.2.2.2.1) : xTok textSize (sX9_statement_q_80 textSize start next token value error errorAt seen text told q_80).2.2.2.1 (sX9_statement_q_80 textSize start next token value error errorAt seen text told q_80).2.2.2.2.1 := by
  unfold sX9_statement_q_80
  split
  · exact h
  · exact x_st_83 (x_setsT h)
theorem x_statementT {t s n tk v er ea sn : Int32} {text told : Nat → Int32} (ht : xTok t s n) : xTok t (sX9_statement t s n tk v er ea sn text told).2.2.2.1 (sX9_statement t s n tk v er ea sn text told).2.2.2.2.1 := by
  unfold sX9_statement
  split
  rotate_left
  · exact x_st_80 (x_onceT ht)
  split
  rotate_left
  · exact x_st_74 (x_onceT ht)
  split
  rotate_left
  · exact x_st_68 (x_onceT ht)
  split
  rotate_left
  · exact x_st_59 (x_onceT ht)
  split
  rotate_left
  · exact x_st_53 (x_onceT ht)
  split
  rotate_left
  · exact x_st_47 (x_onceT ht)
  split
  rotate_left
  · exact x_st_32 (x_onceT ht)
  split
  rotate_left
  · exact x_st_23 (x_onceT ht)
  split
  rotate_left
  · exact x_st_11 (x_onceT ht)
  exact x_st_10 ht
