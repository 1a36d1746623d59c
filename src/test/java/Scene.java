/** Objects in the states at which a refused call is tried: with nothing, with something, with all that fits. */
enum Scene {
    NEW {
        @Override
        CallFilter object() {
            return new CallFilter(0);
        }
    },

    /** Room is left everywhere, and a run has stored words. */
    USED {
        @Override
        CallFilter object() {
            CallFilter x = withRecord(7);
            x.otherwise(false, 2, 12);
            x.otherwise(true, 3, 13);
            x.rule(3, 4, 5, 1);
            x.rule(4, 5, 4, 2);
            x.condition(1, 0, 5, 0);
            Code.replace(x, Code.of(0x20, 0), Code.of(0x02, 0), Code.of(0x01, 0xffffffffL), Code.of(0x03, 15),
                Code.of(0x15, 1, 0, 5), Code.of(0x04, 1000), Code.of(0x16, 0));
            x.run();
            return x;
        }
    },

    /** What a run has left no longer fits record and program. */
    CHANGED {
        @Override
        CallFilter object() {
            CallFilter x = USED.object();
            x.cut(1);
            x.word(0, 6);
            x.withdraw();
            return x;
        }
    },

    /** The record is foreign, the program has a fault, and the latest run was refused. */
    REFUSED {
        @Override
        CallFilter object() {
            CallFilter x = USED.object();
            Code.replace(x, Code.of(0x02, 1), Code.of(0x60, 3), Code.of(0x16, 0));
            x.run();
            x.word(1, 8);
            return x;
        }
    },

    /** Six rules, the last with three conditions, and 64 instructions. */
    FULL {
        @Override
        CallFilter object() {
            CallFilter x = withRecord(0);
            for (int i = 0; i < 6; i++) {
                x.rule(i, 5, 6 - i, i);
                x.condition(i, 0, 5, 0);
            }
            x.condition(0, 5, 5, 0);
            x.condition(1, 3, 5, 0);
            for (int i = 0; i < 63; i++) {
                x.put(fullProgram(i));
            }
            x.put(Code.of(0x16, 0));
            x.run();
            return x;
        }
    };

    abstract CallFilter object();

    private static CallFilter withRecord(int architecture) {
        CallFilter x = new CallFilter(architecture);
        x.word(0, 4);
        x.word(1, architecture);
        for (int i = 2; i < 16; i++) {
            x.word(i, 1000 + i);
        }
        return x;
    }

    /** Every instruction has a part in the value of the run. */
    private static long fullProgram(int i) {
        switch (i % 4) {
            case 0: return Code.of(0x04, i + 1);
            case 1: return Code.of(0x24, 3);
            case 2: return Code.of(0x02, i % 16);
            default: return Code.of(0xa4, 7L * i);
        }
    }
}
