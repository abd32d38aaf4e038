section TRN
end TRN
