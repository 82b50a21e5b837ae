/** Puts a market text into an inspection, by append and parse. */
final class Text {
    private Text() {
    }

    /** The five ints for append that hold text[from .. from + 19], with blanks behind its end. */
    static int[] words(String text, int from) {
        int[] words = new int[5];
        for (int i = 0; i < 20; i++) {
            int sign = from + i < text.length() ? text.charAt(from + i) & 255 : ' ';
            words[i / 4] = words[i / 4] << 8 | sign;
        }
        return words;
    }

    static void append(ScaleInspection x, String text) {
        for (int from = 0; from < text.length(); from += 20) {
            int[] w = words(text, from);
            x.append(w[0], w[1], w[2], w[3], w[4]);
        }
    }

    static int parse(ScaleInspection x, String text) {
        append(x, text);
        return x.parse(text.length());
    }

    static ScaleInspection market(String text) {
        ScaleInspection x = new ScaleInspection();
        int code = parse(x, text);
        if (code != 0) {
            throw new IllegalStateException("the test's market has error " + code + " at " + x.errorPosition());
        }
        return x;
    }
}
