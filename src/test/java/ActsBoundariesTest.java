/** The boundary cases of the document's terms II (ACTS): each sentence at its boundary and just beyond it. */
public final class ActsBoundariesTest extends Script {
    public static void main(String[] args) {
        madeInAFolder();
        madeByAName();
        madeOfAnAbsence();
        madeBehindTheWalk();
        madeSixtyWithToldOnes();
        madeSixtyEver();
        madeCount();
        removedFound();
        removedNoRoot();
        removedWithoutNodes();
        removedNodeGoes();
        removedAbsencesGo();
        removedIsAnAbsence();
        removedIsGone();
        goneGoesWithTheLast();
        renamedFound();
        renamedNoRootNotCovered();
        renamedHeldMeanwhile();
        renamedIntoAFolder();
        renamedInTheSameVolume();
        renamedNotBelowIt();
        renamedByAName();
        renamedToAnAbsence();
        renamedHasTheOther();
        openedAtMostSix();
        openedFound();
        mountedOverAFolder();
        mountedOnce();
        unmountedButZero();
        unmountedHeldByAHandle();
        unmountedHeldByAWalker();
        unmountedHeldByAVolume();
        unmountedGoneOnes();
        unmountedEntriesGo();
        anotherRoomTrimsNothing();
        refusedWithoutPaths();
        refusedWithSixHandles();
        refusedWithFourWalkers();
        refusedWithSixtyNodes();
        refusedVolumes();
        refusedByWalks();
        drawnFromMountedVolumes();
        drawnHoweverLong();
        lastTwenty();
        drawWrapsAround();
        finish("the boundaries of the acts are kept");
    }

    private static void madeInAFolder() {
        sentence("MADE: .. all STEPS but the last are FOUND as a folder");
        fresh(USUAL);
        due("in the ROOT", file("/f"), 11);
        due("in a folder", folder("/a/f"), 12);
        due("in one that was made", file("/a/f/f"), 13);
        due("in a file", file("/e/f"), NONE);
        due("in a file that was made", file("/f/f"), NONE);
        due("in nothing", file("/q/f"), NONE);
        due("behind a file", file("/e/q/f"), NONE);
        due("refused", x.status(3), 4);
    }

    private static void madeByAName() {
        sentence("MADE: .. the last is a NAME");
        fresh(USUAL);
        due(".", folder("/a/."), NONE);
        due("..", folder("/a/.."), NONE);
        due("/", folder("/"), NONE);
        due(". ahead of it", folder("/a/./f"), 11);
        due(".. ahead of it", folder("/a/../f"), 12);
        due("4 letters", folder("/abcd"), 13);
        due("5 letters", folder("/abcde"), NONE);
        due("refused", x.status(3), 4);
    }

    private static void madeOfAnAbsence() {
        sentence("MADE: .. its CHILD an ABSENCE");
        fresh(USUAL);
        due("a file there", file("/e"), NONE);
        due("a folder there", folder("/a"), NONE);
        look("/q");
        due("an ABSENCE in the MEMORY", file("/q"), 11);
        due("it is that ENTRY", x.entry(child("q", 0), 1), 11);
        due("not twice", file("/q"), NONE);
        due("one that is not in it", file("/r"), 12);
        remove("/e");
        due("one that was removed", folder("/e"), 13);
        mount("/a", 1);
        due("a COVERED one", folder("/a"), NONE);
        due("b is below a, not below its ROOT", folder("/a/b"), 14);
    }

    private static void madeBehindTheWalk() {
        sentence("(the WALK of all STEPS but the last comes first, whatever that is)");
        fresh(USUAL);
        folder("/a/b/.");
        due("a, b LOADED ahead of .", x.has(7), 2);
        due("the ROOT, a, b", x.has(6), 4);
        folder("/a/d/..");
        due("d LOADED ahead of ..", x.has(7), 3);
        due("the ROOT, a, d", x.has(6), 7);
        folder("/");
        due("the ROOT alone", x.has(6), 8);
        folder("/a/d/q");
        due("the ROOT, a, d, a file", x.has(6), 11);
        due("q is not LOADED", x.has(7), 3);
        due("all can be undone", x.has(14), 4);
    }

    private static void madeSixtyWithToldOnes() {
        sentence("a new NODE then (the next number, 60 at most)");
        fresh(names(39) + ";");
        for (int k = 40; k < 60; k++) due("made", file("/b" + (char) ('a' + k - 40)), k);
        due("all of them", x.has(1), 60);
        due("the last", x.node(59, 0), 0);
        due("one more", file("/bz"), NONE);
        due("all of them", x.has(1), 60);
        due("none", x.node(60, 0), NONE);
        due("it is not there", where("/bz"), NOTHING);
    }

    private static void madeSixtyEver() {
        sentence("60 NODES were told or MADE ever");
        fresh(";");
        for (int k = 1; k < 60; k++) {
            due("made, another number each", file("/f"), k);
            if (k < 59) remove("/f");
        }
        due("two there", x.has(1), 2);
        due("one more", file("/g"), NONE);
        due("removed", remove("/f"), 59);
        due("one more still", file("/f"), NONE);
        x.undo();
        x.undo();
        due("an undone one was not", file("/f"), 59);
        due("one more", file("/g"), NONE);
    }

    private static void madeCount() {
        sentence("that has a new NODE then .. its COUNT is one more");
        fresh(";");
        look("/f");
        due("at first", x.entry(1, 3), 0);
        file("/f");
        due("made", x.entry(1, 3), 1);
        file("/f");
        due("refused", x.entry(1, 3), 1);
        remove("/f");
        due("removed", x.entry(1, 3), 2);
        folder("/f");
        due("made again", x.entry(1, 3), 3);
        due("the ROOT's", x.entry(0, 3), 0);
    }

    private static void removedFound() {
        sentence("REMOVED: FOUND");
        fresh(USUAL);
        due("nothing", remove("/q"), NONE);
        due("behind a file", remove("/e/q"), NONE);
        due("behind nothing", remove("/q/q"), NONE);
        due("found", remove("/a/../e/."), 5);
        due("not twice", remove("/e"), NONE);
        due("refused", x.status(3), 4);
    }

    private static void removedNoRoot() {
        sentence("REMOVED: .. no ROOT, not COVERED");
        fresh("a{}b{};;");
        due("the ROOT", remove("/"), NONE);
        due("by ..", remove("/a/.."), NONE);
        mount("/a", 1);
        due("a ROOT over a folder", remove("/a"), NONE);
        due("the folder is there", x.node(1, 1), 1);
        x.unmount(1);
        due("no more over it", remove("/a"), 1);
    }

    private static void removedWithoutNodes() {
        sentence("REMOVED: .. a file or a folder without NODES");
        fresh("a{b{c}}d{}e;");
        due("a file", remove("/e"), 5);
        due("a folder of nothing", remove("/d"), 4);
        due("a folder with one", remove("/a/b"), NONE);
        due("what is in it", remove("/a/b/c"), 3);
        due("a folder without", remove("/a/b"), 2);
        due("the one above", remove("/a"), 1);
        due("the ROOT alone", x.has(1), 1);
    }

    private static void removedNodeGoes() {
        sentence("the NODE goes; its COUNT is one more");
        fresh("a{b};");
        look("/a/b");
        due("its number", remove("/a/b"), 2);
        due("no volume", x.node(2, 0), NONE);
        due("no letter", x.letter(false, 2, 0), NONE);
        due("none in a", x.node(1, 3), 0);
        due("nodes", x.has(1), 2);
        due("nothing there", where("/a/b"), NOTHING);
        due("its COUNT", x.entry(2, 3), 1);
        due("a's COUNT", x.entry(1, 3), 0);
    }

    private static void removedAbsencesGo() {
        sentence("ABSENCES below it go");
        fresh("a{};");
        look("/a/q");
        look("/a/r");
        look("/s");
        due("three", x.has(3), 3);
        due("a is HELD by two", x.entry(1, 2), 2);
        remove("/a");
        due("s, a now", x.has(3), 2);
        due("the ROOT, a, s", x.has(2), 3);
        due("none TRIMMED", x.has(8), 0);
        due("q is not found", child("q", 1), NONE);
        due("s is", child("s", 0), 4);
    }

    private static void removedIsAnAbsence() {
        sentence("if it is HELD by none, it is an ABSENCE");
        fresh("a{}b;");
        look("/a/q");
        due("HELD by an ABSENCE, which goes", remove("/a"), 1);
        due("an ABSENCE", x.entry(1, 1), NONE);
        due("not GONE", x.entry(1, 7), 0);
        due("with its PARENT", x.entry(1, 0), 0);
        due("and NAME", child("a", 0), 1);
        due("none GONE", x.has(15), 0);
        int loaded = x.has(7);
        due("nothing", look("/a"), NOTHING);
        due("not LOADED", x.has(7), loaded);
        open("/b");
        x.close(0);
        remove("/b");
        due("HELD no more: an ABSENCE", x.has(3), 2);
    }

    private static void removedIsGone() {
        sentence("else it is GONE: it has no PARENT (that is not HELD by it then), no CHILD is found as it");
        fresh("a{b};");
        open("/a/b");
        due("a by b", x.entry(1, 2), 1);
        remove("/a/b");
        due("GONE", x.entry(2, 7), 1);
        due("one", x.has(15), 1);
        due("no PARENT", x.entry(2, 0), NONE);
        due("a by none", x.entry(1, 2), 0);
        due("no CHILD", child("b", 1), NONE);
        due("no ABSENCE", x.has(3), 0);
        due("nothing there", look("/a/b"), NOTHING);
        due("an ABSENCE beside it", child("b", 1), 3);
        due("a file beside it", file("/a/b"), 3);
        due("GONE still", x.entry(2, 7), 1);
        due("a GONE one is an ENTRY", x.has(2), 4);
        due("not FREE", x.has(4), 1);
    }

    private static void goneGoesWithTheLast() {
        sentence("when it is HELD by none any more, it goes");
        fresh("a b;");
        open("/a");
        open("/a");
        begin("/a/.");
        remove("/a");
        x.close(0);
        due("by one yet", x.entry(1, 7), 1);
        due("HELD once", x.entry(1, 2), 1);
        x.close(1);
        due("by none", x.entry(1, 7), NONE);
        due("none GONE", x.has(15), 0);
        due("none TRIMMED", x.has(8), 0);
        due("its number is free", look("/b"), 1);
        x.undo();
        x.undo();
        due("undone", x.entry(1, 7), 1);
        x.quit(0);
        due("a LIGHT walker held none", x.entry(1, 2), 1);
    }

    private static void renamedFound() {
        sentence("RENAMED: FOUND");
        fresh(USUAL);
        due("nothing", rename("/q /r"), NONE);
        due("behind a file", rename("/e/q /r"), NONE);
        due("the second WALK is not done", x.has(7), 2);
        due("found", rename("/a/.././e /r"), 2);
        due("not twice", rename("/e /s"), NONE);
    }

    private static void renamedNoRootNotCovered() {
        sentence("RENAMED: .. no ROOT, not COVERED");
        fresh("a{b{}};;");
        due("the ROOT", rename("/ /r"), NONE);
        due("by ..", rename("/a/.. /r"), NONE);
        mount("/a/b", 1);
        due("a ROOT over a folder", rename("/a/b /r"), NONE);
        due("the folder above it", rename("/a /r"), 1);
        due("its VOLUME goes along", where("/r/b"), 3);
        x.unmount(1);
        due("no more over it", rename("/r/b /b"), 2);
    }

    private static void renamedHeldMeanwhile() {
        sentence("(it is HELD meanwhile)");
        fresh("m n{o{p{q}}};");
        x.room(4);
        due("m, HELD while n, o, p, z come", rename("/m /n/o/p/z"), 1);
        due("m has p as its PARENT", x.entry(1, 0), 4);
        due("none TRIMMED", x.has(8), 0);
        due("HELD no more", x.entry(1, 2), 0);
        fresh("m n;");
        rename("/m /q/r");
        due("refused: HELD no more", x.entry(1, 2), 0);
        rename("/m /n");
        due("refused: HELD no more", x.entry(1, 2), 0);
    }

    private static void renamedIntoAFolder() {
        sentence("to another PATH: all STEPS but the last FOUND as a folder");
        fresh(USUAL);
        due("a file", rename("/e /a/d/e"), NONE);
        due("behind a file", rename("/e /a/d/q/e"), NONE);
        due("nothing", rename("/e /q/e"), NONE);
        due("a folder", rename("/e /a/b/e") > 0, true);
        due("the ROOT", rename("/a/b/e /e") > 0, true);
    }

    private static void renamedInTheSameVolume() {
        sentence("in the same VOLUME");
        fresh("a{}b;x{}y;");
        mount("/a", 1);
        due("from 0 to 1", rename("/b /a/b"), NONE);
        due("from 0 to below 1's ROOT", rename("/b /a/x/b"), NONE);
        due("from 1 to 0", rename("/a/y /y"), NONE);
        due("in 1", rename("/a/y /a/x/y") > 0, true);
        due("in 1, to its ROOT", rename("/a/x/y /a/z") > 0, true);
        due("in 0, by 1", rename("/b /a/../c") > 0, true);
    }

    private static void renamedNotBelowIt() {
        sentence("not below it nor it itself");
        fresh("a{b{c{}}}d{};");
        due("it itself", rename("/a /a/q"), NONE);
        due("just below", rename("/a /a/b/q"), NONE);
        due("far below", rename("/a /a/b/c/q"), NONE);
        due("beside", rename("/a/b /a/q") > 0, true);
        due("above", rename("/a/q/c /c") > 0, true);
        due("beside it, below another one", rename("/a /c/a"), 1);
        due("now it is below that", rename("/c /c/a/c"), NONE);
    }

    private static void renamedByAName() {
        sentence("RENAMED: .. the last a NAME");
        fresh(USUAL);
        due(".", rename("/e /a/."), NONE);
        due("..", rename("/e /a/.."), NONE);
        due("/", rename("/e /"), NONE);
        due("refused", x.status(3), 3);
        due("by WALKS", x.has(14), 3);
        due("dots ahead of it", rename("/e /a/../f") > 0, true);
        due("5 letters", rename("/f /abcde"), NONE);
        due("at once", x.has(14), 4);
    }

    private static void renamedToAnAbsence() {
        sentence("its CHILD an ABSENCE: that goes");
        fresh("a b{}c;");
        due("a file there", rename("/a /c"), NONE);
        due("a folder there", rename("/a /b"), NONE);
        due("it itself there", rename("/a /a"), NONE);
        look("/q");
        int entries = x.has(2);
        due("one ABSENCE", x.has(3), 1);
        due("an ABSENCE in the MEMORY", rename("/a /q"), 1);
        due("it went", x.has(2), entries - 1);
        due("none", x.has(3), 0);
        due("one that is not in it", rename("/q /r"), 1);
        due("it went, too", x.has(2), entries - 1);
        due("none TRIMMED", x.has(8), 0);
        due("where it was, nothing is in the MEMORY", child("q", 0), NONE);
    }

    private static void renamedHasTheOther() {
        sentence("the NODE, the ENTRY have the other PARENT, NAME, its COUNT is one more");
        fresh("a{b{c}}d{};");
        due("its ENTRY", rename("/a/b /d/e"), 2);
        due("its NODE's folder", x.node(2, 2), 4);
        due("its NODE's NAME", x.letter(false, 2, 0), 5);
        due("its NAME", x.letter(true, 2, 0), 5);
        due("its PARENT", x.entry(2, 0), known("/d"));
        due("its COUNT", x.entry(2, 3), 1);
        due("its NODE", x.entry(2, 1), 2);
        due("a holds none", x.entry(1, 2), 0);
        due("d holds it", x.entry(known("/d"), 2), 1);
        due("none in a", x.node(1, 3), 0);
        due("one in d", x.node(4, 3), 1);
        due("c goes along", where("/d/e/c"), 3);
        rename("/d/e /a/d/q");
        due("refused: its COUNT stays", x.entry(2, 3), 1);
    }

    private static void openedAtMostSix() {
        sentence("a HANDLE (at most 6, the least number that is free) HOLDS it");
        fresh("a b;");
        for (int k = 0; k < 6; k++) due("open", open("/a"), k);
        due("a 7th", open("/a"), NONE);
        due("six", x.has(9), 6);
        x.close(4);
        x.close(1);
        due("the least", open("/b"), 1);
        due("the next", open("/b"), 4);
        due("a 7th", open("/b"), NONE);
        due("b by two", x.entry(2, 2), 2);
    }

    private static void openedFound() {
        sentence("OPENED: FOUND");
        fresh("a{}b;;");
        due("nothing", open("/q"), NONE);
        due("behind a file", open("/b/q"), NONE);
        due("none", x.has(9), 0);
        due("the ROOT", open("/"), 0);
        due("a folder", open("/a"), 1);
        due("a file", open("/b"), 2);
        mount("/a", 1);
        due("a ROOT over a folder", open("/a"), 3);
        due("that ROOT", x.entry(x.handle(3), 1), 3);
        due("refused", x.status(4), 2);
    }

    private static void mountedOverAFolder() {
        sentence("MOUNTED: FOUND, a folder, no ROOT, not COVERED");
        fresh("a{}b;;;");
        due("nothing", mount("/q", 1), NONE);
        due("behind a file", mount("/b/q", 1), NONE);
        due("a file", mount("/b", 1), NONE);
        due("the ROOT", mount("/", 1), NONE);
        due("a folder", mount("/a", 1) > 0, true);
        due("a ROOT over it", mount("/a", 2), NONE);
        due("1 alone", x.has(11), 3);
        x.unmount(1);
        due("no more over it", mount("/a", 2) > 0, true);
    }

    private static void mountedOnce() {
        sentence("a VOLUME that is not: it COVERS it, its COUNT is one more, the ROOT is made");
        fresh("a{}b{};;");
        look("/a");
        int tick = x.has(6);
        due("the ROOT's ENTRY", mount("/a", 1), 2);
        due("its NODE", x.entry(2, 1), 3);
        due("made behind the ROOT, a", x.entry(2, 5), tick + 2);
        due("not LOADED", x.has(7), 1);
        due("COVERS", x.entry(1, 6), 1);
        due("COUNT", x.entry(1, 3), 1);
        due("it is MOUNTED", mount("/b", 1), NONE);
        due("0 is MOUNTED", mount("/b", 0), NONE);
        x.unmount(1);
        due("it is not", mount("/b", 1) > 0, true);
    }

    private static void unmountedButZero() {
        sentence("UNMOUNTED: a VOLUME but 0 that is");
        fresh("a{};;;");
        due("0", x.unmount(0), NONE);
        due("1 is not", x.unmount(1), NONE);
        mount("/a", 1);
        due("2 is not", x.unmount(2), NONE);
        due("3 is none", x.unmount(3), NONE);
        due("-1 is none", x.unmount(-1), NONE);
        due("1 is", x.unmount(1), 1);
        due("1 is not", x.unmount(1), NONE);
        due("0 alone", x.has(11), 1);
        due("refused", x.status(3), 6);
    }

    private static void unmountedHeldByAHandle() {
        sentence("of which no ENTRY is HELD by a HANDLE");
        fresh("a{};x;");
        mount("/a", 1);
        open("/a/x");
        due("below its ROOT", x.unmount(1), NONE);
        due("not to be undone", x.has(14), 2);
        x.close(0);
        open("/a");
        due("its ROOT", x.unmount(1), NONE);
        x.close(0);
        open("/");
        due("another one's", x.unmount(1), 2);
        fresh("a{};x;");
        open("/a");
        mount("/a", 1);
        due("the COVERED one is not its ENTRY", x.unmount(1), 1);
    }

    private static void unmountedHeldByAWalker() {
        sentence("of which no ENTRY is HELD by .. a WALKER");
        fresh("a{};x{};");
        mount("/a", 1);
        begin("/a/x/.");
        x.step(0);
        due("LIGHT at its ROOT", x.walker(0, 0), 0);
        due("none is HELD", x.unmount(1), 1);
        x.undo();
        x.step(0);
        due("HEAVY below it", x.walker(0, 0), 1);
        due("HELD", x.unmount(1), NONE);
        x.step(0);
        due("over: HELD no more", x.unmount(1), 2);
        due("mounted again", mount("/a", 1) > 0, true);
        begin("/a/q/.");
        x.step(0);
        x.step(0);
        due("over at an ABSENCE", x.unmount(1), 2);
    }

    private static void unmountedHeldByAVolume() {
        sentence("of which no ENTRY is HELD by .. a VOLUME");
        fresh("a{}b{};x{};y;");
        mount("/a", 1);
        mount("/a/x", 2);
        due("2 is over x", x.unmount(1), NONE);
        due("none is over 2", x.unmount(2), 1);
        due("none is over 1", x.unmount(1), 2);
        mount("/a", 1);
        mount("/b", 2);
        due("2 is over b of 0", x.unmount(1), 1);
    }

    private static void unmountedGoneOnes() {
        sentence("GONE ones with its NODES, too");
        fresh("a{}b;x{};");
        mount("/a", 1);
        open("/a/x");
        remove("/a/x");
        due("GONE", x.has(15), 1);
        due("HELD", x.unmount(1), NONE);
        x.close(0);
        due("no more", x.unmount(1), 1);
        mount("/a", 1);
        open("/b");
        remove("/b");
        due("GONE of 0", x.has(15), 1);
        due("not its NODE", x.unmount(1), 1);
        due("GONE yet", x.has(15), 1);
    }

    private static void unmountedEntriesGo() {
        sentence("its ENTRIES go, the COUNT of the COVERED one is one more");
        fresh("a{}b;x{y};");
        mount("/a", 1);
        look("/a/x/y");
        look("/a/q");
        look("/a/x/r");
        look("/b");
        look("/w");
        due("its ROOT, x, y, q, r", x.unmount(1), 5);
        due("the ROOT, a, b, an ABSENCE of 0", x.has(2), 4);
        due("that ABSENCE", x.has(3), 1);
        due("none TRIMMED", x.has(8), 0);
        due("COUNT", x.entry(1, 3), 2);
        due("COVERED by none", x.entry(1, 6), NONE);
        due("HELD by none", x.entry(1, 2), 0);
        mount("/a", 1);
        due("its ROOT alone", x.unmount(1), 1);
        fresh("a{}b{c};x;");
        look("/b/c");
        x.trim(1);
        mount("/a", 1);
        look("/b");
        due("its ROOT alone, not what went before", x.unmount(1), 1);
        due("b by none", x.entry(known("/b"), 2), 0);
        due("the ROOT by a, b", x.entry(0, 2), 2);
    }

    private static void anotherRoomTrimsNothing() {
        sentence("Another ROOM (nothing is TRIMMED then)");
        fresh(names(6) + ";");
        for (String name : names(6).split(" ")) look("/" + name);
        due("4", x.room(4), true);
        due("6 yet", x.has(2), 7);
        due("none TRIMMED", x.has(8), 0);
        look("/q");
        due("behind the next that is LOADED", x.has(8), 3);
    }

    /** Neither come to nor LOADED anything, nor can be undone: the ACT was refused at once. */
    private static void dueAtOnce(String what, int answer, int tick, int acts) {
        due(what, answer, NONE);
        due(what + ": nothing is come to", x.has(6), tick);
        due(what + ": not to be undone", x.has(14), acts);
        due(what + ": the tape went", x.end(1), false);
    }

    private static void refusedWithoutPaths() {
        sentence("(An ACT for which there are no PATHS .. is refused at once.");
        fresh(USUAL);
        for (String text : new String[] {"", "/a /b", "/a/", "a"}) {
            dueAtOnce("look", look(text), 1, 0);
            dueAtOnce("make", file(text), 1, 0);
            dueAtOnce("remove", remove(text), 1, 0);
            dueAtOnce("open", open(text), 1, 0);
            dueAtOnce("mount", mount(text, 1), 1, 0);
            dueAtOnce("begin", begin(text), 1, 0);
        }
        for (String text : new String[] {"", "/a", "/a /b /c", "/a b"}) dueAtOnce("rename", rename(text), 1, 0);
    }

    private static void refusedWithSixHandles() {
        sentence("(An ACT for which .. 6 HANDLES .. is refused at once.");
        fresh("a b;");
        for (int k = 0; k < 6; k++) open("/a");
        dueAtOnce("with 6", open("/b"), x.has(6), 6);
        due("nothing LOADED", x.has(7), 1);
        x.close(3);
        due("with 5", open("/b"), 3);
    }

    private static void refusedWithFourWalkers() {
        sentence("(An ACT for which .. 4 WALKERS .. is refused at once.");
        fresh("a b;");
        for (int k = 0; k < 4; k++) begin("/a");
        dueAtOnce("with 4", begin("/b"), 5, 4);
        x.quit(2);
        due("with 3", begin("/b"), 2);
    }

    private static void refusedWithSixtyNodes() {
        sentence("(An ACT for which .. 60 NODES were told or MADE ever .. is refused at once.");
        fresh(names(39) + ";");
        for (int k = 40; k < 60; k++) folder("/b" + (char) ('a' + k - 40));
        due("twenty", x.has(14), 20);
        x.undo();
        due("the 60th", file("/a/q"), NONE);
        due("by its WALK", x.has(14), 20);
        due("the 60th", folder("/bt"), 59);
        x.undo();
        x.undo();
        folder("/bt");
        dueAtOnce("the 61st", folder("/bu"), x.has(6), 19);
        dueAtOnce("whatever its PATH", folder("/"), x.has(6), 19);
        due("others go on", remove("/bt"), 59);
    }

    private static void refusedVolumes() {
        sentence("(An ACT for which .. the VOLUME is none or MOUNTED, is refused at once.");
        fresh("a{}b{};;");
        for (int volume : new int[] {0, 2, 3, -1, LEAST, MOST}) dueAtOnce("mount " + volume, mount("/a", volume), 1, 0);
        due("1 is neither", mount("/a", 1), 2);
        dueAtOnce("mount 1", mount("/b", 1), 4, 1);
        due("nothing LOADED", x.has(7), 1);
    }

    private static void refusedByWalks() {
        sentence("One that can't be by what its WALKS come to is refused then: what was LOADED, come to stays; it can be undone as others.");
        fresh(USUAL);
        due("make", file("/a/b"), NONE);
        due("a, b stay", x.has(7), 2);
        due("the ROOT, a, b", x.has(6), 4);
        due("to be undone", x.has(14), 1);
        due("undone", x.undo(), true);
        due("not LOADED", x.has(7), 0);
        due("not come to", x.has(6), 1);
        due("refused yet", x.status(3), 1);
        int before = 0;
        for (int kind = 0; kind < 4; kind++) {
            int answer = kind == 0 ? remove("/a") : kind == 1 ? rename("/a /e") : kind == 2 ? mount("/a/d", 1) : open("/q");
            due("refused " + kind, answer, NONE);
            due("LOADED " + kind, x.has(7) > before, true);
            before = x.has(7);
            due("to be undone " + kind, x.has(14), kind + 1);
        }
        for (int k = 0; k < 4; k++) due("undone", x.undo(), true);
        due("not LOADED", x.has(7), 0);
    }

    /** A seed by which the next DRAW of m is the one that is wanted. */
    private static int seedFor(int m, int wanted) {
        for (int seed = 0; seed < 100000; seed++) {
            long next = (1103515245L * seed + 12345L) % 2147483648L;
            if (next / 64 % m == wanted) return seed;
        }
        return NONE;
    }

    private static void drawnFromMountedVolumes() {
        sentence("a DRAW of how many NODES there are that are in VOLUMES that are MOUNTED: of that one, by number");
        fresh("a b{};c d;");
        x.seed(seedFor(3, 2));
        due("the last of three", x.chance(1), 1);
        due("b", child("b", 0), 1);
        mount("/b", 1);
        x.seed(seedFor(6, 5));
        x.chance(1);
        due("the last of six: d", child("d", 2) > 0, true);
        due("not c", child("c", 2), NONE);
        remove("/a");
        x.seed(seedFor(5, 3));
        x.chance(1);
        due("removed ones are not: the 4th of five is c", child("c", 2) > 0, true);
        file("/f");
        x.unmount(1);
        x.trim(100);
        x.seed(seedFor(3, 2));
        x.chance(1);
        due("f of three, by its number", x.entry(child("f", 0), 1), 6);
    }

    private static void drawnHoweverLong() {
        sentence("(that by NAMES alone, over the folder over which its VOLUME is MOUNTED, however long)");
        String deep = times(8, "a{") + times(8, "}") + ";";
        fresh(deep + deep);
        mount(times(8, "/a"), 1);
        due("8 LOADED", x.has(7), 8);
        x.seed(seedFor(18, 17));
        due("16 NAMES, 8 of them LOADED", x.chance(1), 8);
        int tick = x.has(6);
        x.seed(seedFor(18, 17));
        due("none LOADED", x.chance(1), 0);
        due("the ROOT, 8, a ROOT, 8", x.has(6), tick + 18);
        x.seed(seedFor(18, 9));
        x.chance(1);
        due("a ROOT: by the folder it is over", x.has(6), tick + 28);
        x.seed(seedFor(18, 0));
        x.chance(1);
        due("the ROOT", x.has(6), tick + 29);
    }

    private static void lastTwenty() {
        sentence("The last 20 can be undone");
        fresh(";");
        for (int k = 1; k <= 19; k++) look("/");
        due("19", x.has(14), 19);
        look("/");
        due("20", x.has(14), 20);
        look("/");
        due("20 of 21", x.has(14), 20);
        for (int k = 20; k > 0; k--) {
            due("undone", x.undo(), true);
            due("left", x.has(14), k - 1);
        }
        due("the 21st", x.undo(), false);
        due("the first stays", x.has(6), 2);
        due("refused", x.status(4), 1);
    }

    private static void drawWrapsAround() {
        sentence("A DRAW of m: x (the seed) becomes (1103515245 x + 12345) mod 2 to the 31; floor(x / 64) mod m");
        // 2^31 - 1 becomes 1043980748, / 64 is 16312199: 5 of 6, 1 of 2; 0 becomes 12345, / 64 is 192: 0 of 6
        fresh("a b c d e;");
        x.seed(MOST);
        x.chance(1);
        due("e", x.entry(child("e", 0), 1), 5);
        x.seed(0);
        due("the ROOT", x.chance(1), 0);
        due("e and the ROOT alone", x.has(2), 2);
        // 12345 becomes 1406932606, / 64 is 21983321: 5 of 6
        due("e again", x.chance(1), 0);
        // 1406932606 becomes 654583775, / 64 is 10227871: 1 of 6
        due("a", x.chance(1), 1);
        due("it is", child("a", 0) > 0, true);
        fresh(";");
        due("of one: the ROOT", x.chance(40), 0);
        due("40 times", x.has(6), 41);
    }
}
