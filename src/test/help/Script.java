/** What the tests by hand share: texts put on the tape, and answers beside what is due. */
abstract class Script {
    static final int NONE = NameKeeper.NONE;
    static final int NOTHING = NameKeeper.NOTHING;
    static final int BLOCKED = NameKeeper.BLOCKED;
    static final int LEAST = Integer.MIN_VALUE;
    static final int MOST = Integer.MAX_VALUE;
    // a is node 1, b 2, c 3, d 4, e 5; the second volume's root 6, x 7, y 8; the third's 9, z 10
    static final String USUAL = "a{b{c}d}e;x{y};z;";
    static NameKeeper x;
    private static int wrong = 0;
    private static int sentences = 0;
    private static String words = "";

    /** The sentence of the document by which the answers that follow are due. */
    static void sentence(String quoted) {
        words = "\"" + quoted + "\": ";
        sentences++;
    }

    static void due(String call, long got, long want) {
        if (got != want) {
            wrong++;
            System.out.println(words + call + " answered " + got + ", due is " + want);
        }
    }

    static void due(String call, boolean got, boolean want) {
        due(call, got ? 1 : 0, want ? 1 : 0);
    }

    static void dueText(String call, String got, String want) {
        if (!got.equals(want)) {
            wrong++;
            System.out.println(words + call + " answered '" + got + "', due is '" + want + "'");
        }
    }

    /** Tells how it went, and ends with 1 if an answer was not as due. */
    static void finish(String kept) {
        System.out.println(wrong > 0 ? wrong + " answers are not as due" : sentences > 0 ? kept + " (" + sentences + " sentences)" : kept);
        if (wrong != 0) {
            System.exit(1);
        }
    }

    // ---- the tape

    static void put(NameKeeper keeper, String text) {
        for (int from = 0; from < text.length(); from += 20) {
            int[] word = new int[5];
            for (int k = 0; k < 20; k++) {
                int octet = from + k < text.length() ? text.charAt(from + k) : ' ';
                word[k / 4] = word[k / 4] << 8 | octet;
            }
            keeper.feed(word[0], word[1], word[2], word[3], word[4]);
        }
        keeper.end(text.length());
    }

    static void feedText(String text) {
        put(x, text);
    }

    static int trees(String text) { feedText(text); return x.trees(); }
    static int where(String text) { feedText(text); return x.where(); }
    static int needs(String text) { feedText(text); return x.needs(); }
    static int look(String text) { feedText(text); return x.look(); }
    static int folder(String text) { feedText(text); return x.make(true); }
    static int file(String text) { feedText(text); return x.make(false); }
    static int remove(String text) { feedText(text); return x.remove(); }
    static int rename(String text) { feedText(text); return x.rename(); }
    static int open(String text) { feedText(text); return x.open(); }
    static int mount(String text, int volume) { feedText(text); return x.mount(volume); }
    static int begin(String text) { feedText(text); return x.begin(); }
    static int trace(String text) { feedText(text); return x.trace(); }
    static int child(String text, int parent) { feedText(text); return x.child(parent); }

    // ---- trees

    static void fresh(String text) {
        x = new NameKeeper();
        if (trees(text) < 1) {
            wrong++;
            System.out.println(words + "trees " + text + " were refused");
        }
    }

    static void faulty(String text, int kind, int place) {
        due("trees " + text, trees(text), NONE);
        due("fault of " + text, x.fault(0), kind);
        due("place of " + text, x.fault(1), place);
    }

    /** So many NAMES, each unlike the others, a blank between. */
    static String names(int count) {
        StringBuilder text = new StringBuilder();
        for (int k = 0; k < count; k++) {
            if (k > 0) text.append(' ');
            if (k >= 26) text.append('a');
            text.append((char) ('a' + k % 26));
        }
        return text.toString();
    }

    static String times(int count, String text) {
        return text.repeat(count);
    }

    /** The ENTRY of a PATH by NAMES alone, as child() finds it step by step; NONE if one is not in the MEMORY. */
    static int known(String path) {
        int at = 0;
        for (String name : path.substring(1).split("/")) at = child(name, at);
        return at;
    }

    static String written(int handle) {
        int length = x.path(handle);
        StringBuilder text = new StringBuilder();
        for (int k = 0; k < length; k++) {
            text.append((char) x.octet(k));
        }
        return length < 0 ? "none" : text.toString();
    }
}
