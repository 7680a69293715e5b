/** The boundary cases of the document's terms II (WALKERS): each sentence at its boundary and just beyond it. */
public final class WalkersBoundariesTest extends Script {
    public static void main(String[] args) {
        atMostFour();
        aStepAtATime();
        wayIsWhatItCameTo();
        lightHoldsNone();
        heavyHoldsAsOften();
        anotherOneByBirth();
        noneAnyMore();
        anotherCount();
        anotherCountOfAGoneOne();
        nothingElseRestarts();
        restartLetsGo();
        restartWayIsTheRoot();
        restartIsHeavy();
        secondRestartIsAStep();
        thirdRestartGoesAllSteps();
        thirdRestartEndsInNothing();
        heavyAtAMissingChild();
        lightAtAnAbsence();
        heavyAtAFile();
        dotsStayLight();
        restartDoesTheFirstStep();
        slashHasNoStep();
        overBehindItsLastStep();
        overLetsGo();
        foundAsTheyWereThen();
        finish("the boundaries of the walkers are kept");
    }

    /** Its COUNT is another one, though all is where it was. */
    private static void stir(String path) {
        String beside = path.substring(0, path.lastIndexOf('/')) + "/tmp";
        rename(path + " " + beside);
        rename(beside + " " + path);
    }

    private static void atMostFour() {
        sentence("WALKERS, at most 4");
        fresh("a;");
        for (int k = 0; k < 4; k++) due("begin", begin("/a"), k);
        due("a fifth", begin("/a"), NONE);
        due("four", x.has(10), 4);
        due("the last one", x.walker(3, 3), 1);
        due("none behind it", x.walker(4, 3), NONE);
        due("one over", x.step(1), 1);
        due("its number again", begin("/a"), 1);
        due("a fifth", begin("/a"), NONE);
        due("one quits", x.quit(3), true);
        due("its number again", begin("/a"), 3);
    }

    private static void aStepAtATime() {
        sentence("do a WALK a STEP at a time");
        fresh("a{b{c}};");
        begin("/a/b/./c");
        for (int k = 0; k < 3; k++) {
            due("done", x.walker(0, 2), k);
            due("goes on", x.step(0), 0);
        }
        due("done", x.walker(0, 2), 3);
        due("LOADED so far", x.has(7), 2);
        due("the last", x.step(0), 1);
        due("all LOADED", x.has(7), 3);
    }

    private static void wayIsWhatItCameTo() {
        sentence("a WALKER has a WAY: the ENTRIES it came to");
        fresh("a{b{}};x;");
        mount("/a/b", 1);
        begin("/a/b/../../.");
        int[] ways = {2, 4, 6, 7};
        int[] places = {1, 3, 1, 0};
        due("the ROOT", x.walker(0, 4), 1);
        due("there", x.walker(0, 5), 0);
        for (int k = 0; k < 4; k++) {
            due("step", x.step(0), 0);
            due("way", x.walker(0, 4), ways[k]);
            due("there", x.walker(0, 5), places[k]);
        }
        due("the longest: two for each of 12", begin("/a/b" + times(5, "/../b")), 1);
        for (int k = 1; k < 12; k++) x.step(1);
        due("1, 1 and 10 times two", x.walker(1, 4), 22);
    }

    private static void lightHoldsNone() {
        sentence("LIGHT it HOLDS none");
        fresh("a{b};");
        look("/a/b");
        begin("/a/b/.");
        x.step(0);
        x.step(0);
        due("LIGHT", x.walker(0, 0), 0);
        due("its way", x.walker(0, 4), 3);
        due("b by none", x.entry(2, 2), 0);
        due("a by b", x.entry(1, 2), 1);
        due("the ROOT by a", x.entry(0, 2), 1);
        due("FREE", x.has(4), 1);
        due("all go", x.trim(100), 2);
    }

    private static void heavyHoldsAsOften() {
        sentence("HEAVY all of its WAY, each as often as it is there");
        fresh("a{b};");
        begin("/a/../a/../a/b/.");
        for (int k = 0; k < 6; k++) x.step(0);
        due("HEAVY", x.walker(0, 0), 1);
        due("the ROOT thrice, and by a", x.entry(0, 2), 4);
        due("a thrice, and by b", x.entry(1, 2), 4);
        due("b once", x.entry(2, 2), 1);
        due("none goes", x.trim(100), 0);
        due("found", x.step(0), 1);
        due("the ROOT by a", x.entry(0, 2), 1);
        due("a by b", x.entry(1, 2), 1);
        due("both go", x.trim(100), 2);
    }

    private static void anotherOneByBirth() {
        sentence("if an ENTRY of its WAY is another one (BIRTH)");
        fresh("a b;");
        look("/a");
        begin("/a/.");
        x.step(0);
        x.trim(1);
        look("/a");
        due("by the same number", known("/a"), 1);
        due("with the same COUNT", x.entry(1, 3), 0);
        due("its first step anew", x.step(0), 0);
        due("RESTARTS", x.walker(0, 1), 1);
        x.quit(0);
        begin("/a/.");
        x.step(0);
        x.trim(1);
        look("/b");
        due("b by a's number", known("/b"), 1);
        x.step(0);
        due("RESTARTS", x.walker(0, 1), 1);
    }

    private static void noneAnyMore() {
        sentence("if an ENTRY of its WAY .. is none any more");
        fresh("a{b};");
        look("/a/b");
        begin("/a/b/..");
        x.step(0);
        x.step(0);
        x.trim(1);
        due("b went", x.entry(2, 0), NONE);
        due("its first step anew", x.step(0), 0);
        due("RESTARTS", x.walker(0, 1), 1);
        due("at a", x.walker(0, 5), 1);
    }

    private static void anotherCount() {
        sentence("if an ENTRY of its WAY .. has another COUNT");
        fresh("a{b{c}};x;");
        look("/a/b/c");
        begin("/a/b/c");
        x.step(0);
        x.step(0);
        stir("/a");
        due("of one on its way: anew", x.step(0), 0);
        due("RESTARTS", x.walker(0, 1), 1);
        x.quit(0);
        begin("/a/b/c");
        x.step(0);
        x.step(0);
        mount("/a/b", 1);
        due("MOUNTED over: anew", x.step(0), 0);
        due("RESTARTS", x.walker(0, 1), 1);
        x.quit(0);
        begin("/a/b/.");
        x.step(0);
        x.step(0);
        x.unmount(1);
        due("UNMOUNTED: anew", x.step(0), 0);
        due("RESTARTS", x.walker(0, 1), 1);
    }

    private static void anotherCountOfAGoneOne() {
        sentence("if an ENTRY of its WAY .. has another COUNT (REMOVED under it)");
        fresh("a{}b;");
        look("/b");
        begin("/b/.");
        x.step(0);
        remove("/b");
        due("LIGHT: an ABSENCE now", x.step(0), NOTHING);
        due("RESTARTS", x.result(2), 1);
        begin("/a/.");
        x.step(0);
        due("HEAVY", x.walker(0, 0), 1);
        remove("/a");
        due("GONE", x.has(15), 1);
        due("anew", x.step(0), NOTHING);
        due("RESTARTS", x.result(2), 1);
        due("it let go: that went", x.has(15), 0);
    }

    private static void nothingElseRestarts() {
        sentence("Else .. Then it does the STEP");
        fresh("a{b{c}d}e;x;");
        look("/a/b/c");
        begin("/a/b/c");
        x.step(0);
        x.step(0);
        look("/a/b");
        due("another USE", x.entry(2, 4) > 0, true);
        open("/a/b");
        stir("/a/b/c");
        stir("/e");
        remove("/a/d");
        file("/a/f");
        mount("/e", 1);
        due("it goes on", x.step(0), 1);
        due("no RESTARTS", x.result(2), 0);
        due("c", x.result(0), 3);
    }

    private static void restartLetsGo() {
        sentence("it lets go");
        fresh("a{b}c;");
        begin("/a/b/.");
        x.step(0);
        x.step(0);
        due("a by b, the walker", x.entry(1, 2), 2);
        due("b by the walker", x.entry(2, 2), 1);
        stir("/a/b");
        x.step(0);
        due("b by none", x.entry(2, 2), 0);
        due("a by b, the walker anew", x.entry(1, 2), 2);
        due("the ROOT by a, the walker once", x.entry(0, 2), 2);
    }

    private static void restartWayIsTheRoot() {
        sentence("its WAY is the ROOT of VOLUME 0 (come to)");
        fresh("a{b};");
        look("/a/b");
        begin("/./a/b");
        x.step(0);
        x.step(0);
        stir("/a");
        int tick = x.has(6);
        due("its first step is a dot", x.step(0), 0);
        due("the ROOT is come to alone", x.has(6), tick + 1);
        due("its USE", x.entry(0, 4), tick);
        due("way", x.walker(0, 4), 1);
        due("there", x.walker(0, 5), 0);
    }

    private static void restartIsHeavy() {
        sentence("RESTARTS are one more .. HEAVY from now on");
        fresh("a{b};");
        look("/a/b");
        begin("/a/b/.");
        x.step(0);
        stir("/a");
        due("LIGHT", x.walker(0, 0), 0);
        due("none", x.walker(0, 1), 0);
        x.step(0);
        due("HEAVY, though all is in the MEMORY", x.walker(0, 0), 1);
        due("one", x.walker(0, 1), 1);
        due("it holds the ROOT", x.entry(0, 2), 2);
        x.step(0);
        due("from now on", x.walker(0, 0), 1);
        due("it holds b", x.entry(2, 2), 1);
    }

    private static void secondRestartIsAStep() {
        sentence("RESTARTS are one more .. Then it does the STEP");
        fresh("a{b{c}};");
        look("/a/b/c");
        begin("/a/b/c");
        for (int restart = 1; restart <= 2; restart++) {
            x.step(0);
            stir("/a");
            due("a step", x.step(0), 0);
            due("RESTARTS", x.walker(0, 1), restart);
            due("done", x.walker(0, 2), 1);
            due("way", x.walker(0, 4), 2);
        }
        due("it goes on", x.step(0), 0);
        due("done", x.walker(0, 2), 2);
        due("found", x.step(0), 1);
        due("RESTARTS", x.result(2), 2);
    }

    private static void thirdRestartGoesAllSteps() {
        sentence("at the 3rd of RESTARTS it goes all STEPS at once");
        fresh("a{b{c}};");
        begin("/a/b/../b/c");
        x.step(0);
        for (int restart = 1; restart <= 2; restart++) {
            stir("/a");
            due("anew", x.step(0), 0);
        }
        stir("/a");
        int tick = x.has(6);
        due("over", x.step(0), 1);
        due("c", x.result(0), 3);
        due("RESTARTS", x.result(2), 3);
        due("HEAVY", x.result(3), 1);
        due("the ROOT, a, b, a, b, c", x.has(6), tick + 6);
        due("no more", x.has(10), 0);
        due("c by none", x.entry(known("/a/b/c"), 2), 0);
    }

    private static void thirdRestartEndsInNothing() {
        sentence("at the 3rd of RESTARTS it goes all STEPS at once (NOTHING, BLOCKED are over, too)");
        dueAtTheThird("/a/./q/..", NOTHING);
        dueAtTheThird("/a/b/r/..", BLOCKED);
    }

    private static void dueAtTheThird(String path, int end) {
        fresh("a{b};");
        begin(path);
        x.step(0);
        for (int restart = 1; restart <= 2; restart++) {
            stir("/a");
            due("anew", x.step(0), 0);
            due("RESTARTS", x.walker(0, 1), restart);
        }
        stir("/a");
        due("over at the 3rd", x.step(0), end);
        due("so", x.result(0), end);
        due("no entry", x.result(1), NONE);
        due("RESTARTS", x.result(2), 3);
        due("no more", x.has(10), 0);
        due("the ROOT by a alone", x.entry(0, 2), 1);
    }

    private static void heavyAtAMissingChild() {
        sentence("LIGHT and at a NAME whose CHILD is not in the MEMORY .. it is HEAVY from now on");
        fresh("a{b{c}};");
        look("/a");
        begin("/a/b/./c");
        x.step(0);
        due("a is in the MEMORY: LIGHT", x.walker(0, 0), 0);
        due("the ROOT by a", x.entry(0, 2), 1);
        x.step(0);
        due("b is not: HEAVY", x.walker(0, 0), 1);
        due("it holds all of its WAY: the ROOT", x.entry(0, 2), 2);
        due("a", x.entry(1, 2), 2);
        due("b", x.entry(2, 2), 1);
        x.step(0);
        due("from now on", x.walker(0, 0), 1);
        due("found", x.step(0), 1);
        due("HEAVY", x.result(3), 1);
    }

    private static void lightAtAnAbsence() {
        sentence("a NAME whose CHILD is not in the MEMORY (an ABSENCE is in it)");
        fresh("a;");
        begin("/q");
        due("not in it", x.step(0), NOTHING);
        due("HEAVY", x.result(3), 1);
        begin("/q");
        due("in it", x.step(0), NOTHING);
        due("LIGHT", x.result(3), 0);
        due("LOADED once", x.has(7), 1);
    }

    private static void heavyAtAFile() {
        sentence("(at a file, too), it is HEAVY from now on");
        fresh("a;");
        look("/a");
        begin("/a/b");
        x.step(0);
        due("LIGHT", x.walker(0, 0), 0);
        due("blocked", x.step(0), BLOCKED);
        due("HEAVY", x.result(3), 1);
        due("nothing LOADED", x.has(7), 1);
        due("it let go", x.entry(1, 2), 0);
    }

    private static void dotsStayLight() {
        sentence("LIGHT and at a NAME (not at . or ..)");
        fresh("a;");
        look("/a");
        begin("/./../a/./..");
        for (int k = 0; k < 4; k++) {
            due("goes on", x.step(0), 0);
            due("LIGHT", x.walker(0, 0), 0);
        }
        due("found", x.step(0), 1);
        due("LIGHT", x.result(3), 0);
        due("the ROOT", x.result(1), 0);
    }

    private static void restartDoesTheFirstStep() {
        sentence("(behind a RESTART the first one");
        fresh("a{b{c}};");
        look("/a/b/c");
        begin("/a/b/c/.");
        for (int k = 0; k < 3; k++) x.step(0);
        stir("/a/b/c");
        due("goes on", x.step(0), 0);
        due("one is done", x.walker(0, 2), 1);
        due("the ROOT, a", x.walker(0, 4), 2);
        due("at a", x.walker(0, 5), 1);
        fresh("a;");
        look("/a");
        begin("/a");
        stir("/a");
        due("none on its way yet: no RESTART", x.step(0), 1);
        due("none", x.result(2), 0);
    }

    private static void slashHasNoStep() {
        sentence("a PATH / has none)");
        fresh("a;");
        begin("/");
        int tick = x.has(6);
        due("STEPS in all", x.walker(0, 3), 0);
        due("STEPS done", x.walker(0, 2), 0);
        due("it is yet", x.has(10), 1);
        due("found", x.step(0), 1);
        due("nothing is come to", x.has(6), tick);
        due("the ROOT's node", x.result(0), 0);
        due("the ROOT", x.result(1), 0);
        due("LIGHT", x.result(3), 0);
        due("no more", x.step(0), NONE);
        begin("/q/r");
        x.quit(0);
        begin("/");
        due("found, whatever the one ahead of it was to do", x.step(0), 1);
        due("LIGHT", x.result(3), 0);
    }

    private static void overBehindItsLastStep() {
        sentence("Over (FOUND, NOTHING, BLOCKED, behind its last STEP at once)");
        fresh("a{b};");
        begin("/a/b");
        due("the last but one", x.step(0), 0);
        due("the last", x.step(0), 1);
        due("no more", x.has(10), 0);
        begin("/a/b/.");
        x.step(0);
        due("b, a dot behind it", x.step(0), 0);
        due("the dot", x.step(0), 1);
        begin("/q/..");
        due("nothing ahead of the last", x.step(0), NOTHING);
        begin("/a/b/c/..");
        x.step(0);
        x.step(0);
        due("blocked ahead of the last", x.step(0), BLOCKED);
        due("no more", x.has(10), 0);
    }

    private static void overLetsGo() {
        sentence("Over .. it lets go of all");
        fresh("a{b}c;");
        for (String path : new String[] {"/a/b", "/a/q", "/a/b/r"}) {
            begin(path);
            for (int k = 0; k < 3; k++) x.step(0);
            due("over", x.has(10), 0);
            due("HEAVY", x.result(3), 1);
            due("all go", x.trim(100) > 1, true);
            due("the ROOT alone", x.has(2), 1);
            due("HELD by none", x.entry(0, 2), 0);
        }
    }

    private static void foundAsTheyWereThen() {
        sentence("(FOUND tells the ENTRY, NODE as they were then.)");
        fresh("a{b};");
        begin("/a/b");
        x.step(0);
        x.step(0);
        remove("/a/b");
        file("/a/b");
        due("the NODE of then", x.result(0), 2);
        x.trim(100);
        due("the ENTRY of then", x.result(1), 2);
        x.undo();
        x.undo();
        x.undo();
        x.undo();
        due("the step undone: stays", x.result(0), 2);
        due("the walker is again", x.has(10), 1);
    }
}
