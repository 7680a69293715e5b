/** The boundary cases of the promises 1 to 41, call by call: each sentence at its boundary and just beyond it. */
public final class CallsBoundariesTest extends Script {
    /** Numbers at the ends of int, and beside the ends that the document names. */
    private static final int[] FAR = {LEAST, LEAST + 1, -400, -61, -4, 1000, 1 << 20, MOST - 1, MOST};

    public static void main(String[] args) {
        noTrees();
        tapeAndTrees();
        asked();
        pathsAsked();
        acts();
        walkers();
        traces();
        undoneAndRefused();
        finish("the boundaries of the calls are kept");
    }

    // ---- 1

    private static void noTrees() {
        sentence("NameKeeper(): No TREES");
        x = new NameKeeper();
        for (int what = 0; what <= 15; what++) due("has " + what, x.has(what), what == 13 ? NONE : 0);
        due("node", x.node(0, 0), NONE);
        due("entry", x.entry(0, 0), NONE);
        due("fault", x.fault(0), 0);
        for (int what = 0; what <= 5; what++) due("status " + what, x.status(what), 0);
        due("the tape is empty", x.end(0), true);
        due("the tape is empty", x.end(1), false);
        constants();
        usedFor512Calls();
    }

    private static void usedFor512Calls() {
        sentence("An object is used for at most 512 calls after it has been made");
        fresh("a;");
        // three calls so far; 508 more, and the one that is asked
        int loaded = 0;
        for (int k = 0; k < 508; k++) loaded += x.chance(40);
        due("the 512th", x.entry(1, 1), 1);
        due("a alone was LOADED", loaded, 1);
    }

    private static void constants() {
        sentence("NONE = -1, NOTHING = -2, BLOCKED = -3");
        due("NONE", NameKeeper.NONE, -1);
        due("NOTHING", NameKeeper.NOTHING, -2);
        due("BLOCKED", NameKeeper.BLOCKED, -3);
    }

    // ---- 2 .. 5

    private static void tapeAndTrees() {
        feedCountsTwenty();
        feedHighestFirst();
        feedRefusedAboveFourHundred();
        endCuts();
        endRefused();
        treesTakeTheTape();
        treesWithAFaultAllStays();
        treesWithoutAVolume();
        treesWithoutAFault();
        treesSeedStays();
        faultOfTheLatest();
        faultOfAnotherWhat();
    }

    private static void feedCountsTwenty() {
        sentence("Twenty bytes come behind those on the tape .. how many there are");
        x = new NameKeeper();
        for (int k = 1; k <= 20; k++) due("feed", x.feed(k, k, k, k, k), 20 * k);
        x.end(7);
        due("behind 7", x.feed(0, 0, 0, 0, 0), 27);
        x.end(0);
        due("behind none", x.feed(0, 0, 0, 0, 0), 20);
    }

    private static void feedHighestFirst() {
        sentence("of each number the highest first");
        x = new NameKeeper();
        x.feed(0x6162633b, 0x64656667, 0x3b68696a, 0x203b2020, 0x20202020);
        due("abc;defg;hij ;", x.trees(), 3);
        int[] letters = {0, 1, 2, 3, 0, 4, 5, 6, 7, 0, 8, 9, 10};
        int[] nodes = {0, 1, 1, 1, 2, 3, 3, 3, 3, 4, 5, 5, 5};
        int[] places = {0, 0, 1, 2, 0, 0, 1, 2, 3, 0, 0, 1, 2};
        for (int k = 0; k < letters.length; k++) due("letter " + k, x.letter(false, nodes[k], places[k]), letters[k]);
        x.feed(0x613bffff, -1, 0x80808080, LEAST, MOST);
        due("bytes of numbers below 0", x.trees(), NONE);
        due("255 is at 2", x.fault(1), 2);
    }

    private static void feedRefusedAboveFourHundred() {
        sentence("NONE, refused (0), if there would be more than 400");
        x = new NameKeeper();
        for (int k = 0; k < 19; k++) x.feed(0x20202020, 0x20202020, 0x20202020, 0x20202020, 0x20202020);
        due("400", x.feed(0x20202020, 0x20202020, 0x20202020, 0x20202020, 0x2020203b), 400);
        due("420", x.feed(0x3b3b3b3b, 0, 0, 0, 0), NONE);
        due("refused", x.status(0), 1);
        due("400 are there", x.end(400), true);
        due("not 401", x.end(401), false);
        due("what is there stays: one ;", x.trees(), 1);
        feedText(times(381, " "));
        due("401", x.feed(0, 0, 0, 0, 0), NONE);
        x.end(380);
        due("400", x.feed(0, 0, 0, 0, 0), 400);
        due("refused", x.status(0), 3);
    }

    private static void endCuts() {
        sentence("The tape has its first n bytes alone: true");
        x = new NameKeeper();
        x.feed(0x613b623b, 0x633b643b, 0, 0, 0);
        due("as many as there are", x.end(20), true);
        due("6", x.end(6), true);
        due("5 are gone for good", x.end(7), false);
        due("a;b;c;", x.trees(), 3);
        x.feed(0x613b623b, 0, 0, 0, 0);
        due("0", x.end(0), true);
        due("nothing", x.trees(), NONE);
        due("at 0", x.fault(1), 0);
    }

    private static void endRefused() {
        sentence("false, refused (0), if it has not so many, or n is below 0");
        x = new NameKeeper();
        due("0 of none", x.end(0), true);
        due("1 of none", x.end(1), false);
        x.feed(0x3b202020, 0x20202020, 0x20202020, 0x20202020, 0x20202020);
        due("21 of 20", x.end(21), false);
        due("20 of 20", x.end(20), true);
        due("-1", x.end(-1), false);
        due("the least", x.end(LEAST), false);
        due("the most", x.end(MOST), false);
        due("refused", x.status(0), 5);
        due("the tape stays", x.trees(), 1);
    }

    private static void treesTakeTheTape() {
        sentence("trees(): The tape (it goes)");
        x = new NameKeeper();
        trees("a;");
        due("it went", x.end(1), false);
        trees("a");
        due("it went with a FAULT, too", x.end(1), false);
        due("none is left ahead", trees("b;"), 1);
    }

    private static void treesWithAFaultAllStays() {
        sentence("NONE, refused (1), with a FAULT (all stays");
        fresh(USUAL);
        open("/a");
        begin("/e");
        x.step(0);
        begin("/a");
        trace("/a /b");
        x.see(2);
        x.room(5);
        int[] before = new int[16];
        for (int what = 0; what < 16; what++) before[what] = x.has(what);
        due("1", trees("a"), NONE);
        due("3", trees("a a;"), NONE);
        due("5", trees(";;;;"), NONE);
        for (int what = 0; what < 16; what++) due("has " + what, x.has(what), before[what]);
        due("result", x.result(0), 5);
        due("nodes", x.node(10, 0), 2);
        due("handle", x.handle(0), 1);
        due("walker", x.walker(0, 3), 1);
        due("fits", x.fits(NONE), 37);
        due("refused", x.status(1), 3);
        due("undo", x.undo(), true);
    }

    private static void treesWithoutAVolume() {
        sentence("one without a VOLUME has FAULT 1 at its length");
        x = new NameKeeper();
        faulty("", 1, 0);
        faulty(" ", 1, 1);
        faulty("\n\n  ", 1, 4);
        faulty(times(400, " "), 1, 400);
        due("refused", x.status(1), 4);
        due("with one", trees(times(399, " ") + ";"), 1);
    }

    private static void treesWithoutAFault() {
        sentence("Without one the MEMORY has one ENTRY, no HANDLES, WALKERS, TRACE, result, nothing SEEN, nothing can be undone, ROOM is 40");
        fresh(USUAL);
        mount("/a/b", 1);
        open("/a");
        begin("/e");
        x.step(0);
        begin("/a/b/x");
        x.step(0);
        trace("/a /b");
        x.see(2);
        x.room(5);
        x.trim(1);
        due("trees", trees("a{b};c;"), 2);
        int[] wants = {2, 5, 1, 0, 0, 40, 1, 0, 0, 0, 0, 1, 0, NONE, 0, 0};
        for (int what = 0; what < 16; what++) due("has " + what, x.has(what), wants[what]);
        due("HELD by none", x.entry(0, 2), 0);
        due("handle", x.handle(0), NONE);
        due("walker", x.walker(0, 0), NONE);
        due("result", x.result(0), NONE);
        due("loads", x.loads(4), NONE);
        due("undo", x.undo(), false);
        due("nothing is MOUNTED", look("/a/b"), 2);
        due("no NODE of before", x.node(5, 0), NONE);
        due("nor its letter", x.letter(false, 5, 0), NONE);
        due("trees of two", trees("a;"), 1);
        due("one in the ROOT", x.node(0, 3), 1);
        due("none of before in a", x.node(1, 3), 0);
        due("no NODE of before", x.node(2, 0), NONE);
    }

    private static void treesSeedStays() {
        sentence("the seed stays");
        fresh("a;");
        x.seed(0);
        trees("a b c d e;");
        // 0 becomes 12345, / 64 is 192: 0 of 6; 1 would be 4 of 6
        due("the ROOT", x.chance(1), 0);
        trees("a b c d e;");
        // 12345 becomes 1406932606: 5 of 6
        x.chance(1);
        due("e", child("e", 0), 1);
    }

    private static void faultOfTheLatest() {
        sentence("Of the latest trees(): its FAULT (what 0; 0 without, and ahead of any), its place (1; NONE without)");
        x = new NameKeeper();
        due("ahead of any", x.fault(0), 0);
        due("its place", x.fault(1), NONE);
        faulty("a a;", 3, 2);
        faulty("ab", 1, 2);
        due("trees", trees("a;"), 1);
        due("without", x.fault(0), 0);
        due("its place", x.fault(1), NONE);
        faulty(";;;;", 5, 3);
        look("/");
        due("till the next trees()", x.fault(0), 5);
    }

    private static void faultOfAnotherWhat() {
        sentence("fault(): NONE for another what");
        x = new NameKeeper();
        trees("a a;");
        due("2", x.fault(2), NONE);
        due("-1", x.fault(-1), NONE);
        for (int what : FAR) due("far " + what, x.fault(what), NONE);
    }

    // ---- 6 .. 12

    private static void asked() {
        hasWithoutTrees();
        hasForOthers();
        hasRemovedAndGone();
        hasSeenNot();
        nodeNoneSuch();
        nodeRemoved();
        nodeForOthers();
        letterBehind();
        letterNoneSuch();
        entryNoneSuch();
        entryNone();
        childNoneSuch();
        childNoName();
        walkerNoneSuch();
        handleNoneSuch();
    }

    private static void hasWithoutTrees() {
        sentence("Without TREES 13 is NONE, others 0");
        x = new NameKeeper();
        trees("a");
        for (int what = 0; what <= 15; what++) due("has " + what, x.has(what), what == 13 ? NONE : 0);
        due("16", x.has(16), NONE);
        due("-1", x.has(-1), NONE);
    }

    private static void hasForOthers() {
        sentence("has(): NONE for others");
        fresh(USUAL);
        due("15", x.has(15), 0);
        due("16", x.has(16), NONE);
        due("0", x.has(0), 3);
        due("-1", x.has(-1), NONE);
        for (int what : FAR) due("far " + what, x.has(what), NONE);
    }

    private static void hasRemovedAndGone() {
        sentence("1 NODES there are (removed ones not), 2 ENTRIES (with ROOTS, GONE ones), 3 ABSENCES of these, 15 GONE ENTRIES");
        fresh("a{}b c;;");
        mount("/a", 1);
        look("/b");
        open("/c");
        due("nodes", x.has(1), 5);
        due("two ROOTS, a, b, c", x.has(2), 5);
        remove("/b");
        due("without b", x.has(1), 4);
        due("an ABSENCE", x.has(3), 1);
        due("entries", x.has(2), 5);
        remove("/c");
        due("without c", x.has(1), 3);
        due("GONE", x.has(15), 1);
        due("with c", x.has(2), 5);
        due("no ABSENCE", x.has(3), 1);
        due("b is FREE, c is not", x.has(4), 1);
        x.close(0);
        due("without c", x.has(2), 4);
        due("none GONE", x.has(15), 0);
    }

    private static void hasSeenNot() {
        sentence("13 SEEN (NONE: not)");
        fresh("a;");
        due("not", x.has(13), NONE);
        trace("/a");
        due("not", x.has(13), NONE);
        x.see(0);
        due("0", x.has(13), 0);
        x.see(-1);
        due("0 still", x.has(13), 0);
        x.see(MOST);
        due("the most", x.has(13), MOST);
    }

    private static void nodeNoneSuch() {
        sentence("node(): NONE when there is none such");
        fresh(USUAL);
        due("the first", x.node(0, 0), 0);
        due("the last", x.node(10, 0), 2);
        due("behind it", x.node(11, 0), NONE);
        due("ahead", x.node(-1, 0), NONE);
        due("60", x.node(60, 0), NONE);
        for (int node : FAR) due("far " + node, x.node(node, 0), NONE);
        file("/f");
        due("made", x.node(11, 0), 0);
        due("behind it", x.node(12, 0), NONE);
        x = new NameKeeper();
        due("without TREES", x.node(0, 0), NONE);
    }

    private static void nodeRemoved() {
        sentence("Of a NODE (removed ones not): .. 2 the folder it is in (NONE: a ROOT), 3 how many NODES are in it (0 of a file)");
        fresh("a{b c};d;");
        due("a ROOT", x.node(0, 2), NONE);
        due("another ROOT", x.node(4, 2), NONE);
        due("a", x.node(1, 2), 0);
        due("two", x.node(1, 3), 2);
        due("a file", x.node(2, 3), 0);
        due("a file is no folder", x.node(2, 1), 0);
        remove("/a/b");
        due("one", x.node(1, 3), 1);
        for (int what = 0; what < 4; what++) due("removed", x.node(2, what), NONE);
        due("not moved", x.node(3, 2), 1);
        file("/a/b");
        due("a new one", x.node(6, 2), 1);
        due("removed yet", x.node(2, 0), NONE);
    }

    private static void nodeForOthers() {
        sentence("node(): NONE .. for others");
        fresh(USUAL);
        due("3", x.node(1, 3), 2);
        due("4", x.node(1, 4), NONE);
        due("-1", x.node(1, -1), NONE);
        for (int what : FAR) due("far " + what, x.node(1, what), NONE);
    }

    private static void letterBehind() {
        sentence("Letter k (0 .. 3) .. 1 .. 26; 0 behind it (of a ROOT: at once)");
        fresh("a zyxw;;");
        due("a", x.letter(false, 1, 0), 1);
        for (int k = 1; k < 4; k++) due("behind a", x.letter(false, 1, k), 0);
        due("z", x.letter(false, 2, 0), 26);
        due("w", x.letter(false, 2, 3), 23);
        due("4", x.letter(false, 2, 4), NONE);
        due("-1", x.letter(false, 2, -1), NONE);
        for (int k = 0; k < 4; k++) {
            due("a ROOT's", x.letter(false, 0, k), 0);
            due("another ROOT's", x.letter(false, 3, k), 0);
            due("a ROOT's ENTRY's", x.letter(true, 0, k), 0);
        }
        due("a ROOT's 4", x.letter(true, 0, 4), NONE);
        look("/zyxw");
        due("an ENTRY's w", x.letter(true, 1, 3), 23);
        due("4", x.letter(true, 1, 4), NONE);
        look("/q");
        due("an ABSENCE's", x.letter(true, 2, 0), 17);
        for (int k : FAR) due("far " + k, x.letter(true, 2, k), NONE);
    }

    private static void letterNoneSuch() {
        sentence("letter(): NONE when there is none such");
        fresh("a b;");
        due("node 2", x.letter(false, 2, 0), 2);
        due("node 3", x.letter(false, 3, 0), NONE);
        due("node -1", x.letter(false, -1, 0), NONE);
        due("entry 1", x.letter(true, 1, 0), NONE);
        due("entry -1", x.letter(true, -1, 0), NONE);
        look("/b");
        due("entry 1", x.letter(true, 1, 0), 2);
        due("entry 2", x.letter(true, 2, 0), NONE);
        remove("/b");
        due("a removed node", x.letter(false, 2, 0), NONE);
        due("its ENTRY is an ABSENCE", x.letter(true, 1, 0), 2);
        x.trim(1);
        due("it went", x.letter(true, 1, 0), NONE);
        for (int which : FAR) {
            due("far node " + which, x.letter(false, which, 0), NONE);
            due("far entry " + which, x.letter(true, which, 0), NONE);
        }
        x = new NameKeeper();
        due("without TREES", x.letter(false, 0, 0), NONE);
        due("without TREES", x.letter(true, 0, 0), NONE);
    }

    private static void entryNoneSuch() {
        sentence("entry(): NONE when there is none such, or for others");
        fresh("a;");
        due("the ROOT", x.entry(0, 3), 0);
        due("behind it", x.entry(1, 3), NONE);
        due("ahead", x.entry(-1, 3), NONE);
        look("/a");
        due("a", x.entry(1, 3), 0);
        x.trim(1);
        due("it went", x.entry(1, 3), NONE);
        due("7", x.entry(0, 7), 0);
        due("8", x.entry(0, 8), NONE);
        due("-1", x.entry(0, -1), NONE);
        for (int far : FAR) {
            due("far entry " + far, x.entry(far, 3), NONE);
            due("far what " + far, x.entry(0, far), NONE);
        }
    }

    private static void entryNone() {
        sentence("0 PARENT (NONE: none), 1 NODE (NONE: an ABSENCE) .. 6 the VOLUME that COVERS it (NONE: none), 7 whether it is GONE");
        fresh("a{}b;;");
        mount("/a", 1);
        look("/q");
        open("/b");
        remove("/b");
        int[][] wants = {
            {NONE, 0, NONE, 0}, // the ROOT
            {0, 1, 1, 0},       // a, COVERED
            {NONE, 3, NONE, 0}, // the ROOT over it
            {0, NONE, NONE, 0}, // q, an ABSENCE
            {NONE, 2, NONE, 1}, // b, GONE
        };
        for (int e = 0; e < wants.length; e++) {
            due("PARENT of " + e, x.entry(e, 0), wants[e][0]);
            due("NODE of " + e, x.entry(e, 1), wants[e][1]);
            due("COVERED " + e, x.entry(e, 6), wants[e][2]);
            due("GONE " + e, x.entry(e, 7), wants[e][3]);
        }
    }

    private static void childNoneSuch() {
        sentence("child(): NONE when there is none such in the MEMORY");
        fresh("a{b};x;");
        due("not LOADED", child("a", 0), NONE);
        look("/a/b");
        due("a", child("a", 0), 1);
        due("b in a", child("b", 1), 2);
        due("b not in the ROOT", child("b", 0), NONE);
        due("none below a file", child("c", 2), NONE);
        due("of none", child("a", 3), NONE);
        due("of NONE, which ROOTS have as PARENT", child("a", NONE), NONE);
        look("/q");
        due("an ABSENCE", child("q", 0), 3);
        for (int parent : FAR) due("far " + parent, child("a", parent), NONE);
        due("nothing is LOADED", x.has(7), 3);
        x = new NameKeeper();
        due("without TREES", child("a", 0), NONE);
    }

    private static void childNoName() {
        sentence("child(): NONE when .. it is no NAME");
        fresh("a abcd;");
        look("/a");
        look("/abcd");
        due("1 letter", child("a", 0), 1);
        due("4 letters", child("abcd", 0), 2);
        for (String text : new String[] {"", "abcde", "A", "a ", " a", "/a", ".", "..", "a\n", "a`", "a{", "abcdabcdabcdabcdabcda"}) {
            due("no NAME " + text, child(text, 0), NONE);
            due("the tape went", x.end(1), false);
        }
        child("a", 0);
        due("the tape went", x.end(1), false);
    }

    private static void walkerNoneSuch() {
        sentence("walker(): NONE when there is none such, or for others");
        fresh("a;");
        due("none", x.walker(0, 0), NONE);
        for (int k = 0; k < 4; k++) begin("/a/.");
        for (int what = 0; what < 6; what++) due("3", x.walker(3, what), what == 3 ? 2 : what == 4 ? 1 : 0);
        due("4", x.walker(4, 0), NONE);
        due("-1", x.walker(-1, 0), NONE);
        due("what 6", x.walker(0, 6), NONE);
        due("what -1", x.walker(0, -1), NONE);
        x.quit(1);
        for (int what = 0; what < 6; what++) due("1 quit", x.walker(1, what), NONE);
        due("2 did not", x.walker(2, 0), 0);
        for (int far : FAR) {
            due("far " + far, x.walker(far, 0), NONE);
            due("far what " + far, x.walker(0, far), NONE);
        }
    }

    private static void handleNoneSuch() {
        sentence("The ENTRY of a HANDLE; NONE when there is none such");
        fresh("a;");
        due("none", x.handle(0), NONE);
        open("/");
        for (int k = 1; k < 6; k++) open("/a");
        due("the ROOT's", x.handle(0), 0);
        due("5", x.handle(5), 1);
        due("6", x.handle(6), NONE);
        due("-1", x.handle(-1), NONE);
        x.close(3);
        due("closed", x.handle(3), NONE);
        due("beside it", x.handle(4), 1);
        for (int far : FAR) due("far " + far, x.handle(far), NONE);
    }

    // ---- 13 .. 17

    private static void pathsAsked() {
        whereComes();
        whereNone();
        needsLoaded();
        needsNone();
        victimNoneSuch();
        pathOfRoots();
        pathOfTheLongest();
        pathOfAllNodes();
        pathOfAGoneOne();
        pathNoneSuch();
        octetNoneSuch();
    }

    private static void whereComes() {
        sentence("where(): to which NODE a WALK would come, NOTHING, BLOCKED (nothing is LOADED, come to)");
        fresh(USUAL);
        due("a NODE", where("/a/b/c"), 3);
        due("the ROOT", where("/"), 0);
        due("NOTHING", where("/q/r"), NOTHING);
        due("BLOCKED", where("/e/r"), BLOCKED);
        due("ENTRIES", x.has(2), 1);
        due("TICK", x.has(6), 1);
        due("LOADED", x.has(7), 0);
        due("none to be undone", x.has(14), 0);
        mount("/a", 1);
        due("a ROOT", where("/a"), 6);
        due("TICK", x.has(6), 4);
    }

    private static void whereNone() {
        sentence("where(): NONE when it is none, or without TREES");
        fresh("a;");
        due("none", where("a"), NONE);
        due("the tape went", x.end(1), false);
        due("empty", where(""), NONE);
        due("two", where("/a /a"), NONE);
        x = new NameKeeper();
        due("without TREES", where("/"), NONE);
        due("the tape went", x.end(1), false);
        for (int what = 1; what <= 5; what++) due("not refused " + what, x.status(what), 0);
    }

    private static void needsLoaded() {
        sentence("needs(): how many ENTRIES would be LOADED, were it LOOKED at");
        fresh(USUAL);
        due("none", needs("/"), 0);
        due("three", needs("/a/b/c"), 3);
        due("an ABSENCE", needs("/a/q/r"), 2);
        due("not below a file", needs("/e/r"), 1);
        look("/a/b");
        due("one yet", needs("/a/b/c"), 1);
        look("/a/b/c");
        due("none", needs("/a/b/c"), 0);
        due("three LOADED", x.has(7), 3);
        fresh(names(5) + ";");
        x.room(4);
        due("a twice, as it goes on the way", needs("/a/../b/../c/../d/../e/../a"), 6);
        x.room(5);
        due("once", needs("/a/../b/../c/../d/../e/../a"), 5);
        due("TICK", x.has(6), 1);
    }

    private static void needsNone() {
        sentence("needs(): NONE when it is none, or without TREES");
        fresh("a;");
        due("none", needs("/a/"), NONE);
        due("the tape went", x.end(1), false);
        due("two", needs("/a /a"), NONE);
        due("empty", needs(""), NONE);
        x = new NameKeeper();
        due("without TREES", needs("/"), NONE);
        due("the tape went", x.end(1), false);
    }

    private static void victimNoneSuch() {
        sentence("victim(): The k-th ENTRY that would go .. k NONE: how many. NONE when there is none such");
        fresh("a{b}c;");
        due("none", x.victim(NONE), 0);
        due("none", x.victim(0), NONE);
        look("/a/b");
        look("/c");
        due("three", x.victim(NONE), 3);
        due("b", x.victim(0), 2);
        due("a, as b went", x.victim(1), 1);
        due("c", x.victim(2), 3);
        due("no 4th", x.victim(3), NONE);
        due("-2", x.victim(-2), NONE);
        for (int far : FAR) due("far " + far, x.victim(far), NONE);
        open("/a/b");
        due("c alone", x.victim(NONE), 1);
        due("c", x.victim(0), 3);
        due("no 2nd", x.victim(1), NONE);
        due("none went", x.has(2), 4);
        x = new NameKeeper();
        due("without TREES", x.victim(NONE), NONE);
        due("without TREES", x.victim(0), NONE);
    }

    private static void pathOfRoots() {
        sentence("(of a ROOT of VOLUME 0 one, /; across MOUNTS by the COVERED ENTRIES");
        fresh("a{b{}};x{};y;");
        open("/");
        due("one byte", x.path(0), 1);
        dueText("the ROOT", written(0), "/");
        mount("/a/b", 1);
        open("/a/b");
        dueText("another ROOT", written(1), "/a/b");
        mount("/a/b/x", 2);
        open("/a/b/x");
        open("/a/b/x/y");
        dueText("a ROOT across a MOUNT", written(2), "/a/b/x");
        dueText("across two", written(3), "/a/b/x/y");
        rename("/a /long");
        dueText("as it is now", written(3), "/long/b/x/y");
    }

    private static void pathOfTheLongest() {
        sentence("The PATH of a HANDLE is written: how many bytes");
        fresh(times(8, "aaaa{") + times(8, "}") + ";" + times(8, "bbbb{") + times(8, "}") + ";");
        mount(times(8, "/aaaa"), 1);
        String deep = times(8, "/aaaa") + times(4, "/bbbb");
        open(deep);
        due("12 NAMES of 4 letters", x.path(0), 60);
        dueText("written", written(0), deep);
        // beyond the 12 STEPS of a PATH: the folder above is renamed to below another one
        folder("/c");
        folder("/c/d");
        rename("/aaaa /c/d/e");
        dueText("14 NAMES", written(0), "/c/d/e" + times(7, "/aaaa") + times(4, "/bbbb"));
        due("its last byte", x.octet(60), 'b');
        due("none behind it", x.octet(61), NONE);
    }

    /** 59 folders, one in the other: what hangs together is moved below the next, so that no PATH has more than 12 STEPS. */
    private static void pathOfAllNodes() {
        sentence("The PATH of a HANDLE is written: how many bytes (of as many NODES as there can be)");
        StringBuilder text = new StringBuilder(times(7, "aaaa{") + times(7, "}"));
        for (String name : "bbbb cccc dddd eeee".split(" ")) text.append(times(8, name + "{")).append(times(8, "}"));
        fresh(text + ";");
        open(times(7, "/aaaa"));
        rename("/aaaa " + times(8, "/bbbb") + "/aaaa");
        rename("/bbbb " + times(8, "/cccc") + "/bbbb");
        rename("/cccc " + times(8, "/dddd") + "/cccc");
        rename("/dddd " + times(8, "/eeee") + "/dddd");
        for (int k = 1; k <= 11; k++) folder(times(k, "/ffff"));
        rename("/eeee " + times(11, "/ffff") + "/eeee");
        for (int k = 1; k <= 9; k++) folder(times(k, "/gggg"));
        rename("/ffff " + times(9, "/gggg") + "/ffff");
        due("nodes", x.has(1), 60);
        String due = times(9, "/gggg") + times(11, "/ffff") + times(8, "/eeee") + times(8, "/dddd")
            + times(8, "/cccc") + times(8, "/bbbb") + times(7, "/aaaa");
        due("59 NAMES of 4 letters", due.length(), 295);
        dueText("written", written(0), due);
        due("none behind it", x.octet(295), NONE);
    }

    private static void pathOfAGoneOne() {
        sentence("of a GONE one that of nothing: 0)");
        fresh("a;");
        open("/a");
        due("two bytes", x.path(0), 2);
        remove("/a");
        due("octets stay till the next path()", x.octet(1), 'a');
        due("nothing", x.path(0), 0);
        due("no octet", x.octet(0), NONE);
        x.undo();
        due("two bytes", x.path(0), 2);
    }

    private static void pathNoneSuch() {
        sentence("path(): NONE when there is none such");
        fresh("a;");
        due("none", x.path(0), NONE);
        for (int k = 0; k < 6; k++) open("/a");
        due("5", x.path(5), 2);
        due("6", x.path(6), NONE);
        due("-1", x.path(-1), NONE);
        x.close(2);
        due("closed", x.path(2), NONE);
        for (int far : FAR) due("far " + far, x.path(far), NONE);
        due("what was written last is there", x.octet(1), 'a');
        x = new NameKeeper();
        due("without TREES", x.path(0), NONE);
    }

    private static void octetNoneSuch() {
        sentence("Byte k of what path() wrote last; NONE when there is none such");
        fresh("az{b};");
        due("ahead of any", x.octet(0), NONE);
        open("/az/b");
        open("/");
        x.path(0);
        int[] bytes = {47, 97, 122, 47, 98};
        for (int k = 0; k < 5; k++) due("byte " + k, x.octet(k), bytes[k]);
        due("5", x.octet(5), NONE);
        due("-1", x.octet(-1), NONE);
        for (int far : FAR) due("far " + far, x.octet(far), NONE);
        x.path(1);
        due("a shorter one", x.octet(0), 47);
        due("has one alone", x.octet(1), NONE);
    }

    // ---- 18 .. 28

    private static void acts() {
        lookRefused();
        makeRefused();
        removeRefused();
        renameRefused();
        openRefused();
        closeRefused();
        mountRefused();
        unmountRefused();
        trimOneToHundred();
        trimAsManyAsCanBe();
        trimRefused();
        roomAnother();
        roomRefused();
        chanceOneToForty();
        chanceRefused();
    }

    /** Of a call that takes PATHS: refused by its kind when the tape is none, and without TREES; the tape goes. */
    private interface Call {
        int answer(String text);
    }

    private static void dueRefused(String name, int kind, String right, Call call) {
        fresh(USUAL);
        String[] texts = {"", " ", "a", "//", "/a/", "/abcde", "/a/...", times(13, "/."), right + " ", " " + right, right + " /q", right + "\n"};
        for (int k = 0; k < texts.length; k++) {
            due(name + " of '" + texts[k] + "'", call.answer(texts[k]), NONE);
            due(name + " refused", x.status(kind), k + 1);
            due(name + ": the tape went", x.end(1), false);
        }
        due(name + ": none to be undone", x.has(14), 0);
        due(name + " of " + right, call.answer(right) >= 0, true);
        due(name + " not refused", x.status(kind), texts.length);
        due(name + " to be undone", x.has(14), 1);
        x = new NameKeeper();
        due(name + " without TREES", call.answer(right), NONE);
        due(name + " refused", x.status(kind), 1);
        due(name + ": the tape went", x.end(1), false);
    }

    private static void lookRefused() {
        sentence("look(): the ENTRY it comes to, NOTHING, BLOCKED; NONE, refused (2), when it is none, or without TREES");
        dueRefused("look", 2, "/a", text -> look(text));
        fresh(USUAL);
        due("NOTHING", look("/q"), NOTHING);
        due("BLOCKED", look("/e/q"), BLOCKED);
        due("not refused", x.status(2), 0);
        due("to be undone", x.has(14), 2);
    }

    private static void makeRefused() {
        sentence("make(): its NODE; NONE, refused (3), when it can't be, is none, or without TREES");
        dueRefused("make", 3, "/f", text -> file(text));
        dueRefused("make", 3, "/a/f", text -> folder(text));
        fresh(USUAL);
        due("it can't be", file("/a"), NONE);
        due("refused", x.status(3), 1);
        due("a file", x.node(file("/f"), 1), 0);
        due("a folder", x.node(folder("/g"), 1), 1);
    }

    private static void removeRefused() {
        sentence("remove(): the NODE that went; NONE, refused (3), likewise");
        dueRefused("remove", 3, "/e", text -> remove(text));
        fresh(USUAL);
        due("it can't be", remove("/a"), NONE);
        due("refused", x.status(3), 1);
        due("to be undone", x.has(14), 1);
    }

    private static void renameRefused() {
        sentence("rename(): two PATHS .. its ENTRY; NONE, refused (3), likewise");
        dueRefused("rename", 3, "/e /f", text -> rename(text));
        fresh(USUAL);
        due("one", rename("/e"), NONE);
        due("three", rename("/e /f /g"), NONE);
        due("none to be undone", x.has(14), 0);
        due("it can't be", rename("/e /a"), NONE);
        due("refused", x.status(3), 3);
        due("to be undone", x.has(14), 1);
    }

    private static void openRefused() {
        sentence("open(): its HANDLE; NONE, refused (4), when it is not FOUND, is none, there are 6, or without TREES");
        dueRefused("open", 4, "/a", text -> open(text));
        fresh(USUAL);
        due("NOTHING", open("/q"), NONE);
        due("BLOCKED", open("/e/q"), NONE);
        due("refused", x.status(4), 2);
        for (int k = 0; k < 6; k++) due("open", open("/a"), k);
        due("there are 6", open("/a"), NONE);
        due("refused", x.status(4), 3);
    }

    private static void closeRefused() {
        sentence("A HANDLE is CLOSED: true; false, refused (4), when there is none such");
        fresh("a;");
        due("none", x.close(0), false);
        for (int k = 0; k < 6; k++) open("/a");
        due("6", x.close(6), false);
        due("-1", x.close(-1), false);
        due("5", x.close(5), true);
        due("5 again", x.close(5), false);
        due("0", x.close(0), true);
        due("refused", x.status(4), 4);
        due("to be undone: 6, 2", x.has(14), 8);
        for (int far : FAR) due("far " + far, x.close(far), false);
        due("refused", x.status(4), 4 + FAR.length);
        due("four are open", x.has(9), 4);
    }

    private static void mountRefused() {
        sentence("mount(): the ENTRY of its ROOT; NONE, refused (3), when it can't be, is none, there is no such VOLUME, or without TREES");
        dueRefused("mount", 3, "/a", text -> mount(text, 1));
        fresh("a{};;");
        due("volume 2 of 2", mount("/a", 2), NONE);
        due("volume -1", mount("/a", -1), NONE);
        due("refused", x.status(3), 2);
        for (int far : FAR) due("far " + far, mount("/a", far), NONE);
        due("volume 1", mount("/a", 1), 2);
        fresh("a{};");
        due("volume 1 of 1", mount("/a", 1), NONE);
        due("volume 2 of 1", mount("/a", 2), NONE);
        due("at once", x.has(14), 0);
    }

    private static void unmountRefused() {
        sentence("unmount(): how many ENTRIES went; NONE, refused (3), when it can't be, or there is none such");
        x = new NameKeeper();
        due("without TREES", x.unmount(1), NONE);
        due("without TREES", x.unmount(0), NONE);
        due("refused", x.status(3), 2);
        fresh("a{};;");
        mount("/a", 1);
        for (int far : FAR) due("far " + far, x.unmount(far), NONE);
        due("0", x.unmount(0), NONE);
        due("2", x.unmount(2), NONE);
        due("-1", x.unmount(-1), NONE);
        due("refused", x.status(3), 3 + FAR.length);
        due("none to be undone", x.has(14), 1);
        due("1", x.unmount(1), 1);
        due("to be undone", x.has(14), 2);
    }

    private static void trimOneToHundred() {
        sentence("trim(): n ENTRIES (1 .. 100) are TRIMMED");
        fresh(names(6) + ";");
        for (String name : names(6).split(" ")) look("/" + name);
        due("0", x.trim(0), NONE);
        due("1", x.trim(1), 1);
        due("a", child("a", 0), NONE);
        due("b stays", child("b", 0), 2);
        due("2", x.trim(2), 2);
        due("c", child("c", 0), NONE);
        due("d stays", child("d", 0), 4);
        due("TRIMMED", x.has(8), 3);
        due("101", x.trim(101), NONE);
        due("100", x.trim(100), 3);
        due("the ROOT alone", x.has(2), 1);
    }

    private static void trimAsManyAsCanBe() {
        sentence("trim(): or as many as can be: how many");
        fresh("a{b}c;");
        due("none can", x.trim(1), 0);
        due("an ACT all the same", x.has(14), 1);
        look("/a/b");
        open("/c");
        due("b, then a, not c", x.trim(3), 2);
        due("c stays", known("/c") > 0, true);
        due("none can", x.trim(100), 0);
        x.close(0);
        due("c", x.trim(100), 1);
        due("TRIMMED", x.has(8), 3);
    }

    private static void trimRefused() {
        sentence("trim(): NONE, refused (2), when n can't be, or without TREES");
        fresh("a;");
        look("/a");
        for (int n : new int[] {0, -1, 101, 102, LEAST, MOST}) due("trim " + n, x.trim(n), NONE);
        due("refused", x.status(2), 6);
        due("none went", x.has(2), 2);
        due("none to be undone", x.has(14), 1);
        x = new NameKeeper();
        due("without TREES", x.trim(1), NONE);
        due("refused", x.status(2), 1);
    }

    private static void roomAnother() {
        sentence("room(): Another ROOM: true");
        fresh("a;");
        due("39", x.room(39), true);
        due("40", x.room(40), true);
        due("4", x.room(4), true);
        due("5", x.room(5), true);
        due("it is", x.has(5), 5);
        due("four ACTS", x.has(14), 4);
        due("undone", x.undo(), true);
        due("it was", x.has(5), 4);
    }

    private static void roomRefused() {
        sentence("room(): false, refused (2), when it is that, it can't be, or without TREES");
        fresh("a;");
        due("40 it is", x.room(40), false);
        due("3", x.room(3), false);
        due("41", x.room(41), false);
        due("0", x.room(0), false);
        due("-4", x.room(-4), false);
        due("refused", x.status(2), 5);
        for (int far : FAR) due("far " + far, x.room(far), false);
        due("40 yet", x.has(5), 40);
        due("none to be undone", x.has(14), 0);
        x.room(4);
        due("4 it is", x.room(4), false);
        x = new NameKeeper();
        due("without TREES", x.room(5), false);
        due("not even none", x.room(0), false);
        due("refused", x.status(2), 2);
        due("none", x.has(5), 0);
    }

    private static void chanceOneToForty() {
        sentence("chance(): n PATHS (1 .. 40) are LOOKED at by the seed, one ACT: how many ENTRIES were LOADED");
        fresh(";");
        due("1", x.chance(1), 0);
        due("the ROOT is come to", x.has(6), 2);
        due("40", x.chance(40), 0);
        due("40 times", x.has(6), 42);
        due("one ACT each", x.has(14), 2);
        x.undo();
        due("all of it is undone", x.has(6), 2);
        fresh("a b c d e f g;");
        int loaded = x.chance(40);
        due("as many as were LOADED", loaded, x.has(7));
        due("all seven by 40", loaded, 7);
    }

    private static void chanceRefused() {
        sentence("chance(): NONE, refused (2), when n can't be, or without TREES");
        fresh("a b c d e;");
        for (int n : new int[] {0, -1, 41, LEAST, MOST}) due("chance " + n, x.chance(n), NONE);
        due("refused", x.status(2), 5);
        due("nothing is come to", x.has(6), 1);
        due("none to be undone", x.has(14), 0);
        // 1 becomes 1103527590, / 64 is 17242618: 4 of 6
        x.chance(1);
        due("the seed stayed: d", x.entry(child("d", 0), 1), 4);
        x = new NameKeeper();
        due("without TREES", x.chance(1), NONE);
        due("refused", x.status(2), 1);
        trees("a b c d e;");
        x.chance(1);
        due("the seed stayed: d", x.entry(child("d", 0), 1), 4);
    }

    // ---- 29 .. 32

    private static void walkers() {
        beginRefused();
        stepAnswers();
        stepRefused();
        resultAheadOfAny();
        resultOfTheLast();
        quitRefused();
    }

    private static void beginRefused() {
        sentence("begin(): its number, the least that is free; NONE, refused (5), when it is none, there are 4, or without TREES");
        dueRefused("begin", 5, "/a", text -> begin(text));
        fresh(USUAL);
        for (int k = 0; k < 4; k++) due("begin", begin("/q"), k);
        due("there are 4", begin("/q"), NONE);
        due("refused", x.status(5), 1);
        x.quit(3);
        x.quit(0);
        due("the least", begin("/"), 0);
        due("the next", begin("/"), 3);
    }

    private static void stepAnswers() {
        sentence("0: it goes on; 1: it is over, FOUND; NOTHING, BLOCKED: it is over so (.. over, it is no more)");
        fresh("a{}b;");
        String[] paths = {"/a/.", "/a/q", "/b/q"};
        int[] ends = {1, NOTHING, BLOCKED};
        for (int k = 0; k < 3; k++) {
            due("begin", begin(paths[k]), 0);
            due("goes on", x.step(0), 0);
            due("it is", x.has(10), 1);
            due("over", x.step(0), ends[k]);
            due("it is no more", x.has(10), 0);
            due("none such", x.step(0), NONE);
            due("none to quit", x.quit(0), false);
        }
    }

    private static void stepRefused() {
        sentence("step(): NONE, refused (5), when there is none such");
        x = new NameKeeper();
        due("without TREES", x.step(0), NONE);
        fresh("a;");
        due("none", x.step(0), NONE);
        for (int k = 0; k < 4; k++) begin("/a");
        due("4", x.step(4), NONE);
        due("-1", x.step(-1), NONE);
        due("refused", x.status(5), 3);
        due("3", x.step(3), 1);
        due("3 is over", x.step(3), NONE);
        for (int far : FAR) due("far " + far, x.step(far), NONE);
        due("refused", x.status(5), 4 + FAR.length);
        due("to be undone: 4, 1", x.has(14), 5);
    }

    private static void resultAheadOfAny() {
        sentence("result(): NONE ahead of any, or for others");
        fresh("a;");
        for (int what = 0; what < 4; what++) due("ahead of any", x.result(what), NONE);
        begin("/a/.");
        x.step(0);
        due("it goes on yet", x.result(0), NONE);
        x.quit(0);
        due("one that quit was not over", x.result(0), NONE);
        begin("/a");
        x.step(0);
        int[] wants = {1, 1, 0, 0};
        for (int what = 0; what < 4; what++) due("over", x.result(what), wants[what]);
        due("4", x.result(4), NONE);
        due("-1", x.result(-1), NONE);
        for (int far : FAR) due("far " + far, x.result(far), NONE);
    }

    private static void resultOfTheLast() {
        sentence("Of the WALKER that was over last: 0 the NODE it FOUND, NOTHING, BLOCKED, 1 the ENTRY (NONE: none)");
        fresh("a b;");
        begin("/a");
        begin("/q");
        begin("/b/q");
        x.step(2);
        x.step(0);
        due("a's NODE", x.result(0), 1);
        due("a's ENTRY", x.result(1), 2);
        x.step(1);
        due("NOTHING", x.result(0), NOTHING);
        due("no ENTRY", x.result(1), NONE);
        x.step(2);
        due("BLOCKED", x.result(0), BLOCKED);
        due("no ENTRY", x.result(1), NONE);
        x.undo();
        due("it stays", x.result(0), BLOCKED);
        x.quit(2);
        due("it stays", x.result(0), BLOCKED);
    }

    private static void quitRefused() {
        sentence("A WALKER is no more: true; false, refused (5), when there is none such");
        x = new NameKeeper();
        due("without TREES", x.quit(0), false);
        fresh("a;");
        due("none", x.quit(0), false);
        for (int k = 0; k < 4; k++) begin("/a");
        due("4", x.quit(4), false);
        due("-1", x.quit(-1), false);
        due("3", x.quit(3), true);
        due("3 again", x.quit(3), false);
        due("0", x.quit(0), true);
        due("refused", x.status(5), 4);
        for (int far : FAR) due("far " + far, x.quit(far), false);
        due("two are there", x.has(10), 2);
        due("to be undone: 4, 2", x.has(14), 6);
    }

    // ---- 33 .. 38

    private static void traces() {
        traceRefused();
        loadsByRooms();
        leastRoom();
        seeFromZeroOn();
        seeRefused();
        seeTillTheNext();
        fitsAllIfNothingIsSeen();
        fitsNoneSuch();
        tellsNone();
    }

    private static void traceRefused() {
        sentence("trace(): how many PATHS; NONE, refused (5), all staying, when it is none, or without TREES");
        fresh(USUAL);
        due("two", trace("/a /q"), 2);
        x.see(2);
        String[] texts = {"", " ", "a", "/a ", " /a", "/a  /q", "/a /q/", "/" + times(12, " /")};
        for (int k = 0; k < texts.length; k++) {
            due("trace of '" + texts[k] + "'", trace(texts[k]), NONE);
            due("refused", x.status(5), k + 1);
            due("the tape went", x.end(1), false);
            due("two PATHS", x.has(12), 2);
            due("SEEN", x.has(13), 2);
            due("a, q", x.loads(4), 2);
        }
        due("no ACT", x.has(14), 0);
        x = new NameKeeper();
        due("without TREES", trace("/"), NONE);
        due("refused", x.status(5), 1);
        due("the tape went", x.end(1), false);
    }

    private static void loadsByRooms() {
        sentence("loads(): by a ROOM (4 .. 40); NONE without a TRACE, or for others");
        fresh("a;");
        due("without a TRACE", x.loads(4), NONE);
        trace("/a");
        due("4", x.loads(4), 1);
        due("40", x.loads(40), 1);
        due("3", x.loads(3), NONE);
        due("41", x.loads(41), NONE);
        due("0", x.loads(0), NONE);
        due("-1", x.loads(-1), NONE);
        for (int far : FAR) due("far " + far, x.loads(far), NONE);
        due("not refused", x.status(5), 0);
        x = new NameKeeper();
        due("without TREES", x.loads(4), NONE);
    }

    private static void leastRoom() {
        sentence("The least ROOM by which the TRACE LOADS n ENTRIES at most; NONE when there is none, or without a TRACE");
        fresh(names(7) + ";");
        due("without a TRACE", x.least(100), NONE);
        trace("/a /b /c /d /e /f /a /b");
        // 4, 5: 8; from 6 on 6
        due("5 at most", x.least(5), NONE);
        due("6 at most", x.least(6), 6);
        due("7 at most", x.least(7), 6);
        due("8 at most", x.least(8), 4);
        due("the most", x.least(MOST), 4);
        due("0", x.least(0), NONE);
        due("-1", x.least(-1), NONE);
        due("the least", x.least(LEAST), NONE);
        trace("/");
        due("0 at most", x.least(0), 4);
        due("-1", x.least(-1), NONE);
    }

    private static void seeFromZeroOn() {
        sentence("see(): n ENTRIES (0 and on) are SEEN to be LOADED: true");
        fresh("a;");
        trace("/");
        due("0", x.see(0), true);
        due("SEEN", x.has(13), 0);
        due("all fit", x.fits(NONE), 37);
        due("1", x.see(1), true);
        due("none fits", x.fits(NONE), 0);
        due("the most", x.see(MOST), true);
        due("none fits", x.fits(NONE), 0);
        due("no ACT", x.has(14), 0);
    }

    private static void seeRefused() {
        sentence("see(): false, refused (5), without a TRACE, or when n can't be");
        x = new NameKeeper();
        due("without TREES", x.see(0), false);
        fresh("a;");
        due("without a TRACE", x.see(0), false);
        due("not SEEN", x.has(13), NONE);
        trace("/a");
        due("-1", x.see(-1), false);
        due("the least", x.see(LEAST), false);
        due("refused", x.status(5), 3);
        due("not SEEN", x.has(13), NONE);
        due("0", x.see(0), true);
    }

    private static void seeTillTheNext() {
        sentence("see(): (ACTS, TREES aside till the next trace())");
        fresh("a;");
        trace("/a/b");
        x.see(1);
        look("/a");
        remove("/a");
        folder("/a");
        due("SEEN", x.has(13), 1);
        due("b, too, is LOADED now: none fits", x.fits(NONE), 0);
        x.undo();
        x.undo();
        due("SEEN", x.has(13), 1);
        due("all fit", x.fits(NONE), 37);
        due("refused", trace("a"), NONE);
        due("SEEN yet", x.has(13), 1);
        trace("/a/b");
        due("till the next", x.has(13), NONE);
        x.see(1);
        trees("a;");
        due("nothing SEEN", x.has(13), NONE);
    }

    private static void fitsAllIfNothingIsSeen() {
        sentence("FITS by what is SEEN (all, if nothing is): how many (k NONE), the k-th, rising");
        fresh(names(5) + ";");
        trace("/a /b /c /d /e /a");
        due("all", x.fits(NONE), 37);
        for (int k = 0; k < 37; k++) due("rising", x.fits(k), 4 + k);
        x.see(6);
        due("one", x.fits(NONE), 1);
        due("4", x.fits(0), 4);
        x.see(5);
        due("others", x.fits(NONE), 36);
        for (int k = 0; k < 36; k++) due("rising", x.fits(k), 5 + k);
    }

    private static void fitsNoneSuch() {
        sentence("fits(): NONE when there is none such, or without a TRACE");
        fresh("a;");
        due("without a TRACE", x.fits(NONE), NONE);
        due("without a TRACE", x.fits(0), NONE);
        trace("/a");
        due("36", x.fits(36), 40);
        due("37", x.fits(37), NONE);
        due("-2", x.fits(-2), NONE);
        for (int far : FAR) due("far " + far, x.fits(far), NONE);
        x.see(2);
        due("no FITS", x.fits(NONE), 0);
        due("no first", x.fits(0), NONE);
        x = new NameKeeper();
        due("without TREES", x.fits(NONE), NONE);
    }

    private static void tellsNone() {
        sentence("tells(): NONE without FITS, a TRACE, or for others");
        x = new NameKeeper();
        due("without TREES", x.tells(0), NONE);
        fresh("a;");
        due("without a TRACE", x.tells(0), NONE);
        due("without a TRACE", x.tells(1), NONE);
        trace("/a /");
        due("which", x.tells(0), 0);
        due("how many", x.tells(1), 37);
        due("2", x.tells(2), NONE);
        due("-1", x.tells(-1), NONE);
        for (int far : FAR) due("far " + far, x.tells(far), NONE);
        x.see(2);
        due("without FITS", x.tells(0), NONE);
        due("without FITS", x.tells(1), NONE);
        x.see(1);
        due("with FITS", x.tells(1), 37);
    }

    // ---- 39 .. 41

    private static void undoneAndRefused() {
        undoOfEachAct();
        undoOfAWalkersWay();
        undoOfOneThatQuit();
        undoWhatStays();
        undoRefused();
        seedFromZeroOn();
        seedAtFirst();
        statusOfEach();
        statusForOthers();
    }

    private static void undoOfEachAct() {
        sentence("The latest ACT (look(), make(), .. quit(), not refused, or by WALKS alone) is undone");
        Runnable[] all = {
            () -> look("/a/q"), () -> file("/f"), () -> remove("/a/b"), () -> rename("/a /e"), () -> open("/a"),
            () -> x.close(0), () -> mount("/a", 2), () -> x.unmount(1), () -> x.trim(100), () -> x.room(5),
            () -> x.chance(40), () -> begin("/q"), () -> x.step(0), () -> x.quit(0),
            () -> file("/c"), () -> remove("/a"), () -> rename("/a /c"), () -> open("/q"), () -> mount("/c", 2),
        };
        for (int k = 0; k < all.length; k++) {
            fresh("a{b}c d{};x;y;");
            x.room(4);
            open("/c");
            begin("/a/b");
            mount("/d", 1);
            look("/q");
            look("/r");
            int[] before = snapshot();
            all[k].run();
            due("act " + k + " can be undone", x.has(14), 7);
            due("act " + k + " is undone", x.undo(), true);
            int[] after = snapshot();
            for (int i = 0; i < before.length; i++) due("act " + k + ", answer " + i, after[i], before[i]);
        }
    }

    private static int[] snapshot() {
        int[] all = new int[16 + 8 * 8 + 10 * 4 + 6 + 6];
        int at = 0;
        for (int what = 0; what < 16; what++) all[at++] = x.has(what);
        for (int e = 0; e < 8; e++) for (int what = 0; what < 8; what++) all[at++] = x.entry(e, what);
        for (int n = 0; n < 10; n++) for (int what = 0; what < 4; what++) all[at++] = x.node(n, what);
        for (int k = 0; k < 6; k++) all[at++] = x.handle(k);
        for (int what = 0; what < 6; what++) all[at++] = x.walker(0, what);
        return all;
    }

    private static void undoOfAWalkersWay() {
        sentence("The latest ACT (.. step() ..) is undone: its WAY, RESTARTS, whether HEAVY");
        fresh("a b;");
        look("/a");
        begin("/a/.");
        x.step(0);
        x.trim(1);
        due("b by a's number", look("/b"), 1);
        due("anew", x.step(0), 0);
        due("a by another number", x.walker(0, 5), 2);
        x.undo();
        int[] wants = {0, 0, 1, 2, 2, 1};
        for (int what = 0; what < 6; what++) due("walker " + what, x.walker(0, what), wants[what]);
        due("HELD by b alone", x.entry(0, 2), 1);
        x.undo();
        look("/a");
        due("a by the same number, another BIRTH: anew", x.step(0), 0);
        x.undo();
        due("anew again", x.step(0), 0);
        due("RESTARTS", x.walker(0, 1), 1);
        undoOfAWalkersCounts();
    }

    private static void undoOfAWalkersCounts() {
        fresh("a;");
        look("/a");
        begin("/a/.");
        x.step(0);
        rename("/a /c");
        rename("/c /a");
        due("another COUNT: anew", x.step(0), 0);
        x.undo();
        due("no RESTARTS", x.walker(0, 1), 0);
        due("anew again", x.step(0), 0);
        due("RESTARTS", x.walker(0, 1), 1);
    }

    private static void undoOfOneThatQuit() {
        sentence("The latest ACT (.. begin(), .. quit()) is undone");
        fresh("a{b}c;");
        begin("/a/b");
        x.step(0);
        x.quit(0);
        due("its number", begin("/c"), 0);
        due("over", x.step(0), 1);
        for (int k = 0; k < 3; k++) x.undo();
        int[] wants = {1, 0, 1, 2, 2, 1};
        for (int what = 0; what < 6; what++) due("walker " + what, x.walker(0, what), wants[what]);
        due("it HOLDS a", x.entry(1, 2), 1);
        due("it goes on", x.step(0), 1);
        due("b", x.result(0), 2);
    }

    private static void undoWhatStays() {
        sentence("is undone (the seed, TRACE, SEEN, result() stay)");
        fresh("a b c d e;");
        begin("/a");
        x.step(0);
        x.chance(1);
        trace("/a /b");
        x.see(2);
        x.seed(0);
        x.undo();
        x.undo();
        due("it is again", x.has(10), 1);
        due("result()", x.result(0), 1);
        due("TRACE", x.has(12), 2);
        due("SEEN", x.has(13), 2);
        due("the seed 0: the ROOT", x.chance(1), 0);
        x.undo();
        x.chance(1);
        due("the next of it: e", x.entry(child("e", 0), 1), 5);
    }

    private static void undoRefused() {
        sentence("undo(): true; false, refused (4), when none can be");
        x = new NameKeeper();
        due("without TREES", x.undo(), false);
        due("refused", x.status(4), 1);
        fresh("a;");
        due("none", x.undo(), false);
        look("a");
        x.trim(0);
        x.room(40);
        x.close(0);
        x.step(0);
        x.unmount(1);
        where("/a");
        trace("/a");
        x.see(1);
        x.seed(1);
        due("none of these", x.undo(), false);
        look("/a");
        due("one", x.undo(), true);
        due("no more", x.undo(), false);
        look("/a");
        trees("a;");
        due("none behind trees()", x.undo(), false);
        due("refused", x.status(4), 5);
    }

    private static void seedFromZeroOn() {
        sentence("The seed: true; false, refused (5), when it is below 0");
        x = new NameKeeper();
        due("0", x.seed(0), true);
        due("the most", x.seed(MOST), true);
        due("-1", x.seed(-1), false);
        due("the least", x.seed(LEAST), false);
        due("refused", x.status(5), 2);
        trees("a b c d e;");
        // 2^31 - 1 becomes 1043980748, / 64 is 16312199: 5 of 6
        x.chance(1);
        due("refused ones are not the seed: e", x.entry(child("e", 0), 1), 5);
    }

    private static void seedAtFirst() {
        sentence("(It is 1 at first.)");
        fresh("a b c d e;");
        x.chance(1);
        int entry = child("d", 0);
        due("4 of 6: d", x.entry(entry, 1), 4);
        due("d alone", x.has(2), 2);
        x.undo();
        x.seed(1);
        x.chance(1);
        due("as by 1", child("d", 0), entry);
    }

    private static void statusOfEach() {
        sentence("How many were refused: 0 feed(), end(); 1 trees(); 2 look(), .. 5 .. seed()");
        x = new NameKeeper();
        Runnable[] all = {
            () -> x.end(1), () -> x.trees(), () -> x.look(), () -> x.trim(1), () -> x.room(5), () -> x.chance(1),
            () -> x.make(true), () -> x.remove(), () -> x.rename(), () -> x.mount(1), () -> x.unmount(1),
            () -> x.open(), () -> x.close(0), () -> x.undo(),
            () -> x.begin(), () -> x.step(0), () -> x.quit(0), () -> x.trace(), () -> x.see(0), () -> x.seed(-1),
        };
        int[] kinds = {0, 1, 2, 2, 2, 2, 3, 3, 3, 3, 3, 4, 4, 4, 5, 5, 5, 5, 5, 5};
        int[] wants = new int[6];
        for (int k = 0; k < all.length; k++) {
            all[k].run();
            wants[kinds[k]]++;
            for (int kind = 0; kind < 6; kind++) due("status " + kind + " behind " + k, x.status(kind), wants[kind]);
        }
        x.where();
        x.needs();
        x.child(0);
        x.path(0);
        x.loads(4);
        for (int kind = 0; kind < 6; kind++) due("asked ones are not refused", x.status(kind), wants[kind]);
        trees("a;");
        for (int kind = 0; kind < 6; kind++) due("behind trees()", x.status(kind), wants[kind]);
    }

    private static void statusForOthers() {
        sentence("status(): NONE for others");
        x = new NameKeeper();
        due("5", x.status(5), 0);
        due("6", x.status(6), NONE);
        due("0", x.status(0), 0);
        due("-1", x.status(-1), NONE);
        for (int far : FAR) due("far " + far, x.status(far), NONE);
    }
}
