/** Counts answers that are not the ones that are due, and feeds texts. */
final class Due {
    private int wrong;
    private int asked;

    void is(String call, long got, long want) {
        asked++;
        if (got != want) {
            wrong++;
            System.out.println(call + " answered " + got + ", due is " + want);
        }
    }

    void end(String what) {
        System.out.println(what + ": " + asked + " answers, " + wrong + " not as due");
        if (wrong != 0) {
            System.exit(1);
        }
    }

    /** Puts the bytes of a text on the tape: twenty at a time, what is too much taken back. */
    static void feed(MarbleBath bath, String text) {
        int[] words = new int[5];
        int length = (text.length() + 19) / 20 * 20;
        for (int i = 0; i < length; i += 20) {
            for (int k = 0; k < 5; k++) {
                words[k] = 0;
                for (int b = 0; b < 4; b++) {
                    int at = i + 4 * k + b;
                    words[k] = words[k] << 8 | (at < text.length() ? text.charAt(at) & 255 : 32);
                }
            }
            bath.feed(words[0], words[1], words[2], words[3], words[4]);
        }
        bath.back(length - text.length());
    }

    static int read(MarbleBath bath, String text) {
        feed(bath, text);
        return bath.read();
    }
}
