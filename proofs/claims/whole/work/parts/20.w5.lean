-- the script's key
section WE
abbrev sck : am_V := am_R (some (31, 0, 0))
end WE
