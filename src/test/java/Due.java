/** Counts answers that are not the ones due; what the tests of the project share. */
final class Due {
    static final int BAD = -1, NO = -2, FULL = -3, NONE = -4;
    private static int asked = 0;
    private static int wrong = 0;
    private static String sentence = "";
    private static int askedAhead = 0;
    private static int wrongOfSentence = 0;

    private Due() {
    }

    static void is(String call, long got, long want) {
        asked++;
        if (got != want) {
            wrong++;
            wrongOfSentence++;
            if (wrong <= 50 || wrongOfSentence == 1) {
                String told = sentence.isEmpty() ? "" : "\"" + sentence + "\": ";
                System.out.println(told + call + " answered " + got + ", due is " + want);
            }
        }
    }

    /** From here on the answers are asked for these words of the document; none asked is a failure. */
    static void sentence(String words) {
        endSentence();
        sentence = words;
        askedAhead = asked;
        wrongOfSentence = 0;
    }

    private static void endSentence() {
        if (!sentence.isEmpty() && asked == askedAhead) {
            wrong++;
            System.out.println("\"" + sentence + "\": nothing was asked");
        }
    }

    static void end() {
        endSentence();
        System.out.println(asked + " answers looked at, " + wrong + " not as due");
        if (wrong != 0 || asked == 0) {
            System.exit(1);
        }
    }

    static void tell(PushSaidDoor x, String text) {
        x.wipe();
        for (int k = 0; k < text.length(); k++) {
            is("write " + text.charAt(k), x.write(text.charAt(k)), k + 1);
        }
    }

    /** A new object in which the house of a text is laid. */
    static PushSaidDoor house(String text, int rooms) {
        PushSaidDoor x = new PushSaidDoor();
        tell(x, text);
        is("fault of " + text, x.fault(), NONE);
        is("lay of " + text, x.lay(), rooms);
        return x;
    }

    static void faultOf(String text, int place) {
        PushSaidDoor x = new PushSaidDoor();
        tell(x, text);
        is("fault of " + text, x.fault(), place);
    }
}
