/** Counts the answers that are not as due, and ends the test by them. */
final class Due {
    private int asked = 0;
    private int wrong = 0;

    void is(String call, long got, long want) {
        asked++;
        if (got != want) {
            wrong++;
            System.out.println(call + " answered " + got + ", due is " + want);
        }
    }

    /** For calls that need no name: the promise is enough to find them. */
    void all(String promise, long... gotAndWant) {
        for (int i = 0; i + 1 < gotAndWant.length; i += 2) {
            is(promise + ", answer " + i / 2, gotAndWant[i], gotAndWant[i + 1]);
        }
    }

    void end() {
        System.out.println(asked + " answers, " + wrong + " not as due");
        if (wrong != 0) {
            System.exit(1);
        }
    }

    static void write(HornTests x, String text) {
        for (int i = 0; i < text.length(); i++) {
            x.feed(text.charAt(i));
        }
    }

    /** A new object that has been told a text. */
    static HornTests told(String text) {
        HornTests x = new HornTests();
        write(x, text);
        int answer = x.text();
        if (answer < 0) {
            throw new IllegalStateException("'" + text + "' was refused: " + answer);
        }
        return x;
    }
}
