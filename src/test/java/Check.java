/** What all tests share: counts the answers that are not due, and says each. */
final class Check {
    private static int answers = 0;
    private static int wrong = 0;

    private Check() {
    }

    static void due(String call, long got, long want) {
        answers++;
        if (got != want) {
            wrong++;
            System.out.println(call + " answered " + got + ", due is " + want);
        }
    }

    static void dueText(String what, String got, String want) {
        answers++;
        if (!got.equals(want)) {
            wrong++;
            System.out.println(what + " is\n  " + got + "\ndue is\n  " + want);
        }
    }

    static void holds(String what, boolean so) {
        due(what, so ? 1 : 0, 1);
    }

    /** Both sides of a fraction, by two calls. */
    static void dueFraction(String call, long upper, long lower, long wantUpper, long wantLower) {
        due(call + " above", upper, wantUpper);
        due(call + " below", lower, wantLower);
    }

    static void write(SpikeTown x, String text) {
        x.wipe();
        for (char letter : text.toCharArray()) {
            x.write(letter);
        }
    }

    /** A new object whose town is as told; the text must be a town. */
    static SpikeTown townOf(String text) {
        SpikeTown x = new SpikeTown();
        write(x, text);
        holds("a town is made of " + text, x.town() >= 0);
        return x;
    }

    /** All that can be asked of a town without a change, as one text. */
    static String pictureOf(SpikeTown x) {
        StringBuilder picture = new StringBuilder();
        for (int what = 0; what <= 8; what++) {
            picture.append(x.about(what)).append(' ');
        }
        for (int slip = 0; slip < 8; slip++) {
            picture.append(x.slip(slip, 0)).append('/').append(x.slip(slip, 1)).append('/')
                .append(x.slip(slip, 2)).append(' ');
        }
        for (int thing = 0; thing < 6; thing++) {
            for (int what = 0; what <= 4; what++) {
                picture.append(x.thing(thing, what)).append(' ');
            }
        }
        return picture.append(x.fault()).toString();
    }

    /** Ends the program, by 1 if an answer was not due. */
    static void end() {
        System.out.println(answers + " answers, " + wrong + " not as due");
        if (wrong != 0) {
            System.exit(1);
        }
    }
}
