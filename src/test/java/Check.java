/** Counts and prints the answers that are not the ones that are due. */
final class Check {
    /** A call, which may throw. */
    interface Call {
        void make();
    }

    /** A call with an answer, which may throw. */
    interface Question {
        int ask();
    }

    private int wrong = 0;
    private String sentence = "";

    /** The answers from here on are due by these words of the document. */
    void sentence(String words) {
        sentence = "\"" + words + "\": ";
    }

    void due(String call, Object got, Object want) {
        if (!got.equals(want)) {
            wrong++;
            System.out.println(sentence + call + " answered " + got + ", due is " + want);
        }
    }

    void illegalArgument(String call, Call made) {
        due(call, thrownBy(made), "IllegalArgumentException");
    }

    void illegalState(String call, Call made) {
        due(call, thrownBy(made), "IllegalStateException");
    }

    void noException(String call, Call made) {
        due(call, thrownBy(made), "nothing");
    }

    /** The simple name of what a call throws, or "nothing". */
    static String thrownBy(Call made) {
        try {
            made.make();
            return "nothing";
        } catch (RuntimeException e) {
            return e.getClass().getSimpleName();
        }
    }

    /** A call's answer, or the simple name of what it throws. */
    static String answerOf(Question question) {
        try {
            return Integer.toString(question.ask());
        } catch (RuntimeException e) {
            return e.getClass().getSimpleName();
        }
    }

    /** A key's cuts as one text, the first pin's first. */
    static String cuts(MasterKeys keys, int key, int pins) {
        StringBuilder text = new StringBuilder();
        for (int pin = 0; pin < pins; pin++) {
            text.append(keys.cut(key, pin));
        }
        return text.toString();
    }

    /** So many keys and doors, and none must open any. */
    static MasterKeys plan(int pins, int depths, int keys, int doors) {
        MasterKeys made = new MasterKeys(pins, depths);
        for (int i = 0; i < keys; i++) {
            made.key();
        }
        for (int i = 0; i < doors; i++) {
            made.door();
        }
        return made;
    }

    void end() {
        if (wrong != 0) {
            System.out.println(wrong + " answers are not as due");
            System.exit(1);
        }
    }
}
