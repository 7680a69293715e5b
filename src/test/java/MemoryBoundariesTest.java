/** The boundary cases of the document's terms II (MEMORY, CHILD, WALK): each sentence at its boundary and just beyond it. */
public final class MemoryBoundariesTest extends Script {
    public static void main(String[] args) {
        volumeZeroIsMounted();
        leastNumberThatIsFree();
        firstTheRoot();
        countZeroAtFirst();
        tickZeroAtFirst();
        tickByEachComeToOrMade();
        heldByThoseBelow();
        heldByHandles();
        heldByWalkers();
        heldByAVolume();
        absenceHeldByNone();
        freeIsHeldByNone();
        freeIsNoRoot();
        childInTheMemoryOrLoaded();
        absenceKeptTillSomethingIsMade();
        roomFortyAtFirst();
        roomFour();
        rootsDontCount();
        asLongAsThereAreMore();
        oneIsFreeButTheOneLoaded();
        allNodesAreHeld();
        leastUseGoes();
        oneThatHoldsStays();
        walkBeginsAtTheRoot();
        dotIsNothing();
        upAtTheRootIsNothing();
        upAtAnotherRoot();
        upElseAtOnce();
        nameAtAFile();
        absenceIsOver();
        coveredOnToTheRoot();
        finish("the boundaries of the memory are kept");
    }

    private static void volumeZeroIsMounted() {
        sentence("VOLUME 0 is MOUNTED from the beginning, others may be over a folder");
        fresh(USUAL);
        due("0 alone", x.has(11), 1);
        due("volume 1 is not come to", where("/x"), NOTHING);
        mount("/a", 2);
        due("0, 2", x.has(11), 5);
        mount("/a", 1);
        due("not over a ROOT", x.has(11), 5);
        x.unmount(2);
        mount("/a", 1);
        mount("/a/x", 2);
        due("all", x.has(11), 7);
    }

    private static void leastNumberThatIsFree() {
        sentence("a new one has the least number that is free");
        fresh("a b c d{}e;;");
        for (int k = 1; k <= 3; k++) due("in a row", look("/" + (char) ('`' + k)), k);
        due("a, b go", x.trim(2), 2);
        due("the least", look("/d"), 1);
        due("the next", look("/e"), 2);
        due("behind all", look("/a"), 4);
        x.trim(1);
        due("c went, a ROOT has its number", mount("/d", 1), 3);
        due("an ABSENCE the next", look("/q"), NOTHING);
        due("by number", child("q", 0), 5);
    }

    private static void firstTheRoot() {
        sentence("first the ROOT of VOLUME 0 (0)");
        fresh("a;b;");
        due("its node", x.entry(0, 1), 0);
        due("without a parent", x.entry(0, 0), NONE);
        due("alone", x.has(2), 1);
        due("no other", x.entry(1, 1), NONE);
        due("none ahead", x.entry(-1, 1), NONE);
    }

    private static void countZeroAtFirst() {
        sentence("it has a COUNT (0 at first)");
        fresh("a{};;");
        due("the ROOT's", x.entry(0, 3), 0);
        look("/a");
        due("a's", x.entry(1, 3), 0);
        look("/q");
        due("an ABSENCE's", x.entry(2, 3), 0);
        due("a ROOT's over a folder", x.entry(mount("/a", 1), 3), 0);
        due("a's, MOUNTED over", x.entry(1, 3), 1);
        // one that comes into a number again begins anew
        file("/q");
        due("MADE", x.entry(2, 3), 1);
        x.trim(1);
        look("/q");
        due("LOADED anew", x.entry(2, 3), 0);
    }

    private static void tickZeroAtFirst() {
        sentence("TICK is 0 at first (its USE, if made its BIRTH, too, is the TICK then, ahead of that)");
        x = new NameKeeper();
        due("without trees", x.has(6), 0);
        trees("a;");
        due("the ROOT is made", x.has(6), 1);
        due("its USE", x.entry(0, 4), 0);
        due("its BIRTH", x.entry(0, 5), 0);
        look("/a");
        due("the ROOT is come to", x.entry(0, 4), 1);
        due("its BIRTH stays", x.entry(0, 5), 0);
        due("a's USE", x.entry(1, 4), 2);
        due("a's BIRTH", x.entry(1, 5), 2);
        due("ahead of that", x.has(6), 3);
        trees("a;");
        due("0 at first again", x.entry(0, 4), 0);
    }

    private static void tickByEachComeToOrMade() {
        sentence("1 more each time an ENTRY is come to or made");
        fresh("a{};;");
        look("/");
        due("the ROOT", x.has(6), 2);
        look("/a");
        due("the ROOT, a LOADED", x.has(6), 4);
        look("/a");
        due("the ROOT, a come to", x.has(6), 6);
        due("a's USE", x.entry(1, 4), 5);
        due("a's BIRTH", x.entry(1, 5), 3);
        file("/f");
        due("the ROOT, an ABSENCE LOADED; its NODE is no ENTRY", x.has(6), 8);
        mount("/a", 1);
        due("the ROOT, a, a ROOT made", x.has(6), 11);
        due("the ROOT's BIRTH", x.entry(3, 5), 10);
        x.unmount(1);
        x.trim(1);
        x.room(5);
        due("nothing come to", x.has(6), 11);
    }

    private static void heldByThoseBelow() {
        sentence("HELD is it by each ENTRY of which it is the PARENT");
        fresh("a{b c};");
        look("/a");
        due("none below", x.entry(1, 2), 0);
        look("/a/b");
        due("one below", x.entry(1, 2), 1);
        look("/a/q");
        due("an ABSENCE, too", x.entry(1, 2), 2);
        due("the ROOT by a alone", x.entry(0, 2), 1);
        x.trim(1);
        due("one went", x.entry(1, 2), 1);
        x.trim(1);
        due("both went", x.entry(1, 2), 0);
    }

    private static void heldByHandles() {
        sentence("HELD is it by .. each HANDLE");
        fresh("a;");
        for (int k = 1; k <= 6; k++) {
            open("/a");
            due("handles", x.entry(1, 2), k);
        }
        open("/a");
        due("a 7th is none", x.entry(1, 2), 6);
        for (int k = 5; k >= 0; k--) {
            x.close(k);
            due("closed", x.entry(1, 2), k);
        }
        open("/");
        due("a ROOT, by a and a handle", x.entry(0, 2), 2);
    }

    private static void heldByWalkers() {
        sentence("HELD is it by .. each WALKER that HOLDS it");
        fresh(USUAL);
        begin("/a/b/c");
        begin("/a/b/c");
        due("LIGHT they hold none", x.entry(0, 2), 0);
        x.step(0);
        due("a by the first", x.entry(1, 2), 1);
        x.step(1);
        due("the second is LIGHT yet", x.entry(1, 2), 1);
        x.step(1);
        due("a by b and both", x.entry(1, 2), 3);
        due("the ROOT by a and both", x.entry(0, 2), 3);
        x.quit(0);
        due("a by b and the second", x.entry(1, 2), 2);
        x.quit(1);
        due("a by b", x.entry(1, 2), 1);
    }

    private static void heldByAVolume() {
        sentence("HELD is it by .. a VOLUME that COVERS it");
        fresh(USUAL);
        look("/a");
        due("by none", x.entry(1, 2), 0);
        mount("/a", 1);
        due("by the volume", x.entry(1, 2), 1);
        due("its ROOT by none", x.entry(2, 2), 0);
        x.unmount(1);
        due("by none", x.entry(1, 2), 0);
    }

    private static void absenceHeldByNone() {
        sentence("an ABSENCE by none");
        fresh("a;");
        begin("/q");
        due("a HEAVY walker comes to it", x.step(0), NOTHING);
        due("HEAVY", x.result(3), 1);
        due("by none", x.entry(1, 2), 0);
        due("FREE", x.has(4), 1);
        due("not opened", open("/q"), NONE);
        due("by none", x.entry(1, 2), 0);
        due("nothing below it", look("/q/r"), NOTHING);
        due("by none", x.entry(1, 2), 0);
    }

    private static void freeIsHeldByNone() {
        sentence("FREE is an ENTRY that is HELD by none");
        fresh("a{b}c;");
        look("/a");
        due("a", x.has(4), 1);
        look("/a/b");
        due("b, not a", x.has(4), 1);
        due("b it is", x.victim(0), 2);
        look("/c");
        due("b, c", x.has(4), 2);
        open("/c");
        due("b", x.has(4), 1);
        open("/a/b");
        due("none", x.has(4), 0);
        x.close(0);
        x.close(1);
        due("b, c again", x.has(4), 2);
    }

    private static void freeIsNoRoot() {
        sentence("FREE is an ENTRY that is .. no ROOT");
        fresh("a{};;");
        due("HELD by none", x.entry(0, 2), 0);
        due("not FREE", x.has(4), 0);
        due("nor trimmed", x.trim(1), 0);
        mount("/a", 1);
        due("its ROOT is HELD by none", x.entry(2, 2), 0);
        due("not FREE", x.has(4), 0);
        due("nor trimmed", x.trim(100), 0);
        due("no victim", x.victim(NONE), 0);
    }

    private static void childInTheMemoryOrLoaded() {
        sentence("the ENTRY in the MEMORY with that PARENT and NAME (come to), else one is LOADED");
        fresh("a{a{a}};");
        due("a", look("/a"), 1);
        due("LOADED", x.has(7), 1);
        due("a again", look("/a"), 1);
        due("not LOADED", x.has(7), 1);
        due("that NAME, another PARENT", look("/a/a"), 2);
        due("LOADED", x.has(7), 2);
        due("that PARENT, another NAME", look("/ab"), NOTHING);
        due("LOADED", x.has(7), 3);
    }

    private static void absenceKeptTillSomethingIsMade() {
        sentence("with the NODE of that NAME in the folder, or as ABSENCE");
        fresh("a{b}c;");
        due("nothing", look("/b"), NOTHING);
        due("an ABSENCE", x.entry(1, 1), NONE);
        due("one LOADED", x.has(7), 1);
        due("nothing still", look("/b"), NOTHING);
        due("none LOADED", x.has(7), 1);
        due("a file is made", file("/b"), 4);
        due("it is the ENTRY", look("/b"), 1);
        due("with that NODE", x.entry(1, 1), 4);
        due("no ABSENCE", x.has(3), 0);
        due("none LOADED", x.has(7), 1);
    }

    private static void roomFortyAtFirst() {
        sentence("as long as there are more ENTRIES than ROOM (.. 40 at first)");
        fresh(";");
        due("ROOM", x.has(5), 40);
        String[] names = names(42).split(" ");
        for (int k = 0; k < 40; k++) look("/" + names[k]);
        due("40 and the ROOT", x.has(2), 41);
        due("none TRIMMED", x.has(8), 0);
        look("/" + names[40]);
        due("40 and the ROOT", x.has(2), 41);
        due("one TRIMMED", x.has(8), 1);
        due("the first", child(names[0], 0), NONE);
        due("not the second", child(names[1], 0), 2);
        look("/" + names[41]);
        due("two TRIMMED", x.has(8), 2);
        due("the second", child(names[1], 0), NONE);
    }

    private static void roomFour() {
        sentence("as long as there are more ENTRIES than ROOM (.. 4 .. 40 ..)");
        fresh(names(6) + ";");
        due("4", x.room(4), true);
        for (String name : names(4).split(" ")) look("/" + name);
        due("4 and the ROOT", x.has(2), 5);
        due("none TRIMMED", x.has(8), 0);
        look("/e");
        due("4 and the ROOT", x.has(2), 5);
        due("one TRIMMED", x.has(8), 1);
        due("5", x.room(5), true);
        look("/f");
        due("5 and the ROOT", x.has(2), 6);
        due("no more TRIMMED", x.has(8), 1);
    }

    private static void rootsDontCount() {
        sentence("more ENTRIES than ROOM (ROOTS don't count ..)");
        fresh("f{}g{}a b c;;;");
        x.room(4);
        mount("/f", 1);
        mount("/g", 2);
        look("/a");
        look("/b");
        due("f, g, a, b and three ROOTS", x.has(2), 7);
        due("none TRIMMED", x.has(8), 0);
        look("/c");
        due("one TRIMMED", x.has(8), 1);
        due("a", child("a", 0), NONE);
    }

    private static void asLongAsThereAreMore() {
        sentence("as long as there are more .. that of the least USE goes");
        fresh(names(9) + ";");
        for (String name : names(7).split(" ")) look("/" + name);
        x.room(4);
        due("7 yet", x.has(2), 8);
        look("/h");
        due("4 of 8 went", x.has(8), 4);
        due("4 and the ROOT", x.has(2), 5);
        due("d went", child("d", 0), NONE);
        due("e stays", child("e", 0), 5);
    }

    private static void oneIsFreeButTheOneLoaded() {
        sentence("and one is FREE but the one just LOADED");
        fresh("a{b{c{d{e{f}}}}}g;");
        x.room(4);
        look("/a/b/c/d");
        due("4", x.has(2), 5);
        look("/a/b/c/d/e");
        due("all but e are HELD: 5", x.has(2), 6);
        due("none TRIMMED", x.has(8), 0);
        due("e is there", known("/a/b/c/d/e"), 5);
        look("/a/b/c/d/e/f");
        due("6", x.has(2), 7);
        look("/g");
        due("f, e, d go, g is spared", x.has(2), 5);
        due("three TRIMMED", x.has(8), 3);
        due("g is there", known("/g") > 0, true);
        due("c is there", known("/a/b/c"), 3);
    }

    private static void allNodesAreHeld() {
        sentence("as long as there are more ENTRIES than ROOM .. and one is FREE (all NODES that can be are HELD)");
        StringBuilder text = new StringBuilder();
        for (String name : "a b c d".split(" ")) text.append(times(8, name + "{")).append(name).append(times(8, "}"));
        fresh(text + "e{e{e{}}};");
        for (String name : "a b c d".split(" ")) open(times(9, "/" + name));
        for (int k = 4; k <= 12; k++) folder(times(k, "/e"));
        for (int k = 1; k <= 11; k++) folder(times(k, "/f"));
        open(times(12, "/e"));
        open(times(11, "/f"));
        due("nodes", x.has(1), 60);
        due("all of them", x.has(2), 60);
        due("none FREE", x.has(4), 0);
        int trimmed = x.has(8);
        due("nothing", look("/q"), NOTHING);
        due("one more", x.has(2), 61);
        due("a HELD one", look(times(9, "/a")), known(times(9, "/a")));
        due("come to: none goes", x.has(2), 61);
        due("nothing", look("/r"), NOTHING);
        due("q went, r came", x.has(2), 61);
        due("one TRIMMED", x.has(8), trimmed + 1);
        due("q", child("q", 0), NONE);
        due("r", child("r", 0) > 0, true);
        x.close(5);
        due("11 and r go", x.trim(100), 12);
    }

    private static void leastUseGoes() {
        sentence("that of the least USE goes (it is TRIMMED)");
        fresh(names(6) + ";");
        x.room(4);
        for (String name : names(4).split(" ")) look("/" + name);
        look("/a");
        look("/e");
        due("b, not a that was come to again", child("b", 0), NONE);
        due("a stays", child("a", 0), 1);
        look("/c");
        look("/f");
        due("d, not c", child("d", 0), NONE);
        due("c stays", child("c", 0), 3);
        due("two TRIMMED", x.has(8), 2);
    }

    private static void oneThatHoldsStays() {
        sentence("trimmed by pressure, the longest unused first, none that holds something");
        fresh("a{b}c d e f;");
        x.room(4);
        look("/a/b");
        look("/c");
        open("/d");
        look("/e");
        due("b went, a holds nothing now", known("/a/b"), NONE);
        due("a stays", known("/a"), 1);
        look("/f");
        due("a went", known("/a"), NONE);
        look("/a");
        look("/b");
        due("d, HELD by a handle, stays", known("/d") > 0, true);
        due("c went", known("/c"), NONE);
    }

    private static void walkBeginsAtTheRoot() {
        sentence("A WALK of a PATH begins at the ROOT of VOLUME 0, which is come to");
        fresh("a;b;");
        due("/", look("/"), 0);
        due("once", x.has(6), 2);
        due("its USE", x.entry(0, 4), 1);
        due("a of volume 0", where("/a"), 1);
        due("b of volume 1 is not there", where("/b"), NOTHING);
    }

    private static void dotIsNothing() {
        sentence("STEP by STEP: . nothing");
        fresh("a{}b;");
        look("/a");
        int tick = x.has(6);
        due("at the ROOT", look("/././."), 0);
        due("the ROOT is come to once", x.has(6), tick + 1);
        due("at a folder", look("/a/."), 1);
        due("at a file", look("/b/./."), 2);
        due("the ROOT, a; the ROOT, b", x.has(6), tick + 5);
        due("at an ABSENCE it is over", look("/q/."), NOTHING);
    }

    private static void upAtTheRootIsNothing() {
        sentence(".. at the ROOT of VOLUME 0 nothing");
        fresh("a{}b;");
        look("/a");
        int tick = x.has(6);
        due("there", look("/../../.."), 0);
        due("the ROOT is come to once", x.has(6), tick + 1);
        due("and on", look("/../a"), 1);
        due("just above it", look("/a/../.."), 0);
        due("the ROOT, a, the ROOT", x.has(6), tick + 6);
    }

    private static void upAtAnotherRoot() {
        sentence("at another ROOT first to the ENTRY over which it is MOUNTED (come to), then .. to the PARENT (come to)");
        fresh("a{b{}};x;");
        int root = mount("/a/b", 1);
        int tick = x.has(6);
        due("to a", look("/a/b/.."), 1);
        due("ROOT, a, b, its ROOT, b, a", x.has(6), tick + 6);
        due("its ROOT's USE", x.entry(root, 4), tick + 3);
        due("b's USE", x.entry(2, 4), tick + 4);
        due("a's USE", x.entry(1, 4), tick + 5);
        due("below its ROOT: its ROOT", look("/a/b/x/.."), root);
        due("over a folder of the ROOT", look("/a/b/../.."), 0);
    }

    private static void upElseAtOnce() {
        sentence("and else at once, to the PARENT (come to)");
        fresh("a{b}c;");
        look("/a/b");
        look("/c");
        int tick = x.has(6);
        due("from a file", look("/a/b/.."), 1);
        due("ROOT, a, b, a", x.has(6), tick + 4);
        due("a's USE", x.entry(1, 4), tick + 3);
        due("from a folder", look("/a/.."), 0);
        due("the ROOT's USE", x.entry(0, 4), tick + 6);
        due("from a file of the ROOT", look("/c/.."), 0);
    }

    private static void nameAtAFile() {
        sentence("a NAME: at a file it is BLOCKED (over)");
        fresh("a{}b;");
        due("a NAME", look("/b/q"), BLOCKED);
        due("nothing LOADED below it", x.has(7), 1);
        due("over: not up again", look("/b/q/.."), BLOCKED);
        due("over: no NAME behind it", look("/b/q/../a"), BLOCKED);
        due("a is not LOADED", x.has(7), 1);
        due(". at it", look("/b/."), 1);
        due(".. at it", look("/b/.."), 0);
        due("at a folder", look("/a/q"), NOTHING);
    }

    private static void absenceIsOver() {
        sentence("else to the CHILD: an ABSENCE: NOTHING (over)");
        fresh("a;");
        due("nothing", look("/q"), NOTHING);
        due("over: not up again", look("/q/.."), NOTHING);
        due("over: nor stays", look("/q/."), NOTHING);
        due("over: no NAME behind it", look("/q/r/s"), NOTHING);
        due("q alone is LOADED", x.has(7), 1);
        due("nothing ahead of blocked", look("/q/../a/b"), NOTHING);
    }

    private static void coveredOnToTheRoot() {
        sentence("a COVERED one: on to the ROOT over it (come to)");
        fresh("a{b};x;");
        look("/a");
        int root = mount("/a", 1);
        int tick = x.has(6);
        due("its ROOT", look("/a"), root);
        due("ROOT, a, its ROOT", x.has(6), tick + 3);
        due("its USE", x.entry(root, 4), tick + 2);
        due("a's USE", x.entry(1, 4), tick + 1);
        due("what is below a is not", look("/a/b"), NOTHING);
        due("what is below its ROOT is", look("/a/x") > 0, true);
        x.unmount(1);
        due("a", look("/a"), 1);
        due("b", look("/a/b") > 0, true);
    }
}
