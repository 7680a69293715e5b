/** Each promise of the document by hand: ordinary inputs, the edges it names, wrong inputs. */
public final class PromisesTest extends Script {
    public static void main(String[] args) {
        newObject();
        tape();
        treesAndFaults();
        counts();
        nodesAndLetters();
        entriesAndChildren();
        whereAndNeeds();
        victims();
        paths();
        looks();
        trimmedByRoom();
        made();
        removed();
        goneOnes();
        renamed();
        renamedWhileTrimmed();
        openedAndClosed();
        mounted();
        unmounted();
        trimmed();
        rooms();
        chances();
        walkersLight();
        walkersHeavy();
        walkersRestarted();
        walkersOverMounts();
        traces();
        tracesTell();
        undone();
        undoneRefusals();
        seeds();
        refusals();
        readme();
        finish("all promises are kept");
    }

    private static void newObject() { // 1
        x = new NameKeeper();
        for (int what = 0; what <= 15; what++) due("new has " + what, x.has(what), what == 13 ? NONE : 0);
        due("new fault", x.fault(0), 0);
        due("new place", x.fault(1), NONE);
        for (int k = 0; k < 6; k++) due("new status " + k, x.status(k), 0);
    }

    private static void tape() { // 2, 3
        x = new NameKeeper();
        for (int k = 1; k <= 20; k++) due("feed " + k, x.feed(0, 0, 0, 0, 0), 20 * k);
        due("feed 21", x.feed(0, 0, 0, 0, 0), NONE);
        due("status", x.status(0), 1);
        due("end 401", x.end(401), false);
        due("end 400", x.end(400), true);
        due("end 381", x.end(381), true);
        due("feed to 401", x.feed(0, 0, 0, 0, 0), NONE);
        due("end 380", x.end(380), true);
        due("feed to 400", x.feed(0, 0, 0, 0, 0), 400);
        due("end -1", x.end(-1), false);
        due("end 0", x.end(0), true);
        due("end 1", x.end(1), false);
        due("status", x.status(0), 5);
        // a byte of 255 and the order of bytes: "a;" in the highest two
        x.feed('a' << 24 | ';' << 16 | 0xff00, -1, -1, -1, -1);
        due("end 2", x.end(2), true);
        due("trees", x.trees(), 1);
        x.feed('a' << 24 | ';' << 16 | 0xff00, -1, -1, -1, -1);
        due("trees of bytes above 127", x.trees(), NONE);
        due("place", x.fault(1), 2);
        due("the tape went", x.end(1), false);
    }

    private static void treesAndFaults() { // 4, 5
        x = new NameKeeper();
        faulty("", 1, 0);
        faulty(" \n ", 1, 3);
        faulty("a", 1, 1);
        faulty("a ", 1, 2);
        faulty("abcde;", 1, 4);
        faulty("a{b", 1, 3);
        faulty("a{b;}", 1, 3);
        faulty("};", 1, 0);
        faulty("a}", 1, 1);
        faulty("{};", 1, 0);
        faulty("a;}", 1, 2);
        faulty("a;b", 1, 3);
        faulty("a\tb;", 1, 1);
        faulty("a{}{};", 1, 3);
        faulty("A;", 1, 0);
        faulty("a b a", 3, 4);
        faulty("a{} a;", 3, 4);
        faulty("a{b b", 3, 4);
        faulty("abcd abcde;", 1, 9);
        faulty("a{a{a a{ a}}};", 3, 6);
        faulty(";;;;", 5, 3);
        faulty(";;; \n1", 5, 5);
        faulty(";;;}", 5, 3);
        faulty("a{a{a{a{a{a{a{a{a{}}}}}}}}};", 5, 17);
        due("eight deep", trees("a{a{a{a{a{a{a{a{a}}}}}}}};"), 1);
        due("blanks behind", trees(";;; \n "), 3);
        due("fault without", x.fault(0), 0);
        due("place without", x.fault(1), NONE);
        due("fault 2", x.fault(2), NONE);
        due("fault -1", x.fault(-1), NONE);
        String forty = names(39) + ";";
        due("40 nodes", trees(forty), 1);
        due("40 nodes", x.has(1), 40);
        faulty(forty + " ;", 5, forty.length() + 1);
        faulty(forty + " a;", 5, forty.length() + 1);
        faulty(forty + " }", 1, forty.length() + 1);
        String more = names(39) + " ";
        faulty(more + "zz;", 5, more.length());
        faulty(more + "a;", 5, more.length());
        faulty(more + "zzzzz;", 5, more.length());
        due("all stays", x.has(1), 40);
        treesClear();
    }

    private static void treesClear() {
        fresh(USUAL);
        look("/a/b");
        open("/a");
        begin("/e");
        x.step(0);
        begin("/a");
        trace("/a /b");
        x.see(2);
        x.room(5);
        x.seed(77);
        due("refused trees", trees("a"), NONE);
        due("all stays: trace", x.has(12), 2);
        due("all stays: seen", x.has(13), 2);
        due("all stays: walkers", x.has(10), 1);
        due("all stays: undone", x.has(14), 6);
        due("all stays: result", x.result(0), 5);
        due("trees anew", trees("a;"), 1);
        int[] want = {1, 2, 1, 0, 0, 40, 1, 0, 0, 0, 0, 1, 0, NONE, 0, 0};
        for (int what = 0; what < want.length; what++) due("anew has " + what, x.has(what), want[what]);
        due("result", x.result(0), NONE);
        due("undo", x.undo(), false);
        due("status of trees stays", x.status(1), 1);
        // what was MOUNTED is no more, though its numbers come again
        fresh("a;b;");
        trees("a{b};x;");
        mount("/a", 1);
        trees("a{b};x;");
        due("nothing is covered", look("/a/b"), 2);
        due("nothing covers", x.entry(1, 6), NONE);
        due("held by b alone", x.entry(1, 2), 1);
    }

    private static void counts() { // 6
        fresh(USUAL);
        look("/a/b/c");
        look("/q");
        mount("/a/b", 1);
        open("/a/b/x");
        open("/e");
        remove("/e");
        begin("/");
        x.room(6);
        x.trim(1);
        trace("/a /b /");
        x.see(4);
        int[] want = {3, 10, 7, 1, 1, 6, 21, 6, 1, 2, 1, 3, 3, 4, 9, 1};
        for (int what = 0; what < want.length; what++) due("has " + what, x.has(what), want[what]);
        due("has 16", x.has(16), NONE);
        due("has -1", x.has(-1), NONE);
    }

    private static void nodesAndLetters() { // 7, 8
        fresh("ab{wxyz}c;d{};");
        due("volume", x.node(4, 0), 1);
        due("folder", x.node(1, 1), 1);
        due("file", x.node(2, 1), 0);
        due("in", x.node(2, 2), 1);
        due("root in none", x.node(4, 2), NONE);
        due("in it", x.node(1, 3), 1);
        due("in a file", x.node(2, 3), 0);
        due("no what", x.node(0, -1), NONE);
        due("no node", x.node(6, 0), NONE);
        due("node -1", x.node(-1, 0), NONE);
        int[] letters = {23, 24, 25, 26};
        for (int k = 0; k < 4; k++) due("letter " + k, x.letter(false, 2, k), letters[k]);
        due("letter 2 of ab", x.letter(false, 1, 2), 0);
        due("letter -1", x.letter(false, 1, -1), NONE);
        due("letter 4", x.letter(false, 2, 4), NONE);
        due("a root's", x.letter(false, 4, 3), 0);
        due("no node's", x.letter(false, 6, 0), NONE);
        look("/q");
        due("an absence's", x.letter(true, 1, 0), 17);
        due("a root entry's", x.letter(true, 0, 0), 0);
        due("no entry's", x.letter(true, 2, 0), NONE);
        due("entry -1's", x.letter(true, -1, 0), NONE);
        remove("/c");
        due("a removed node", x.node(3, 0), NONE);
        due("its letter", x.letter(false, 3, 0), NONE);
        due("root's folder has", x.node(0, 3), 1);
    }

    private static void entriesAndChildren() { // 9, 10
        fresh(USUAL);
        look("/a/q");
        int[] a = {0, 1, 1, 0, 2, 2, NONE, 0};
        int[] q = {1, NONE, 0, 0, 3, 3, NONE, 0};
        for (int what = 0; what < 8; what++) {
            due("entry a " + what, x.entry(1, what), a[what]);
            due("entry q " + what, x.entry(2, what), q[what]);
        }
        due("entry 8", x.entry(1, 8), NONE);
        due("entry what -1", x.entry(1, -1), NONE);
        due("no entry", x.entry(3, 0), NONE);
        due("entry -1", x.entry(-1, 0), NONE);
        due("entry 1000", x.entry(1000, 0), NONE);
        due("child q", child("q", 1), 2);
        due("child not in the memory", child("b", 1), NONE);
        due("child of no entry", child("q", 9), NONE);
        due("child of -1", child("a", -1), NONE);
        due("child no name", child("abcde", 0), NONE);
        due("child of blank", child("a ", 0), NONE);
        due("child empty", child("", 0), NONE);
        due("nothing came to", x.has(6), 4);
        due("the least number that is free", x.trim(1), 1);
        look("/e");
        due("e is there", child("e", 0), 2);
    }

    private static void whereAndNeeds() { // 13, 14
        fresh(USUAL);
        String[] paths = {"/", "/a", "/a/b/c", "/a/.", "/..", "/a/b/c/..", "/a/b/c/../../d", "/q", "/q/..", "/e/q", "/e/.", "/e/..", "/e/../e"};
        int[] wheres = {0, 1, 3, 1, 0, 2, 4, NOTHING, NOTHING, BLOCKED, 5, 0, 5};
        int[] loads = {0, 1, 3, 1, 0, 3, 4, 1, 1, 1, 1, 1, 1};
        for (int k = 0; k < paths.length; k++) {
            due("where " + paths[k], where(paths[k]), wheres[k]);
            due("needs " + paths[k], needs(paths[k]), loads[k]);
        }
        String[] none = {"", "a", "//", "/a/", "/a//b", "/...", "/a/b c", "/a b", "/abcde", "/a\n", "/A", "/a /b", "/1", "/.a", "/a./b"};
        for (String path : none) {
            due("where none " + path, where(path), NONE);
            due("needs none " + path, needs(path), NONE);
        }
        due("12 steps", where("/a/././././././././././b"), 2);
        due("13 steps", where("/a/./././././././././././b"), NONE);
        due("nothing came to", x.has(6), 1);
        due("nothing loaded", x.has(7), 0);
        due("nothing undone", x.has(14), 0);
        mount("/a/b", 1);
        due("over a mount", where("/a/b/x/y"), 8);
        due("covered", where("/a/b/c"), NOTHING);
        due("the root over it", where("/a/b"), 6);
        due("back", where("/a/b/x/../.."), 1);
        due("needs x y", needs("/a/b/x/y"), 2);
        x.trim(100);
        due("needs again what it trims on its way", needs("/a/b/x/y/../../../d"), 3);
        // by a room of 4 names that are loaded may go and be loaded again in one walk
        fresh("a b c d e;");
        x.room(4);
        due("needs with trimmed ones", needs("/a/../b/../c/../d/../e/../a"), 6);
    }

    private static void victims() { // 15
        fresh(USUAL);
        due("none", x.victim(NONE), 0);
        due("none", x.victim(0), NONE);
        look("/a/b/c");
        look("/a/q");
        look("/e");
        open("/a/b");
        // q (use 7), then c (4), e (9); a and b are held by the handle
        due("how many", x.victim(NONE), 3);
        due("first", x.victim(0), 3);
        due("second", x.victim(1), 4);
        due("third", x.victim(2), 5);
        due("fourth", x.victim(3), NONE);
        due("-2", x.victim(-2), NONE);
        due("nothing went", x.has(2), 6);
        x.close(0);
        due("a folder goes behind those below it", x.victim(4), 1);
        due("b is used later than e", x.victim(3), 2);
    }

    private static void paths() { // 12, 16, 17
        fresh(USUAL);
        due("no handle", x.handle(0), NONE);
        due("no path", x.path(0), NONE);
        due("no octet", x.octet(0), NONE);
        open("/");
        open("/a/b/c");
        due("handle 0", x.handle(0), 0);
        due("handle 1", x.handle(1), 3);
        due("handle -1", x.handle(-1), NONE);
        due("handle 6", x.handle(6), NONE);
        dueText("path of root", written(0), "/");
        dueText("path of c", written(1), "/a/b/c");
        due("octet 5", x.octet(5), 'c');
        due("octet 6", x.octet(6), NONE);
        due("octet -1", x.octet(-1), NONE);
        due("path -1", x.path(-1), NONE);
        due("what was written stays", x.octet(5), 'c');
        x.close(1);
        rename("/a/b /long");
        mount("/long", 1);
        open("/long");
        dueText("a root over a folder", written(1), "/long");
        open("/long/x/y");
        dueText("across a mount", written(2), "/long/x/y");
        rename("/long/x/y /long/w");
        dueText("as it is now", written(2), "/long/w");
        remove("/long/w");
        dueText("of a gone one", written(2), "");
        due("octet of nothing", x.octet(0), NONE);
    }

    private static void looks() { // 18
        fresh(USUAL);
        due("look /", look("/"), 0);
        due("look a/b", look("/a/b"), 2);
        due("look file", look("/e"), 3);
        due("look nothing", look("/a/q/r"), NOTHING);
        due("look nothing again", look("/a/q"), NOTHING);
        due("loaded once", x.has(7), 4);
        due("look blocked", look("/e/f"), BLOCKED);
        due("nothing below a file", x.has(7), 4);
        due("look up", look("/a/b/../../e/.."), 0);
        due("look up at the root", look("/../../a"), 1);
        int tick = x.has(6);
        look("/..");
        due(".. at the root comes to nothing", x.has(6), tick + 1);
        look("/./.");
        due(". comes to nothing", x.has(6), tick + 2);
        due("refused", x.status(2), 0);
        due("undone", x.has(14), 10);
        due("look none", look("/a/"), NONE);
        due("refused", x.status(2), 1);
        due("not to be undone", x.has(14), 10);
        due("use of a", x.entry(1, 4) > x.entry(2, 4), true);
    }

    private static void trimmedByRoom() { // II, CHILD
        fresh("a{b{c{d{e{f}}}}}g h i j k;");
        x.room(4);
        for (String path : new String[] {"/g", "/h", "/i", "/j"}) look(path);
        due("four", x.has(2), 5);
        look("/g");
        due("come to does not trim", x.has(8), 0);
        due("the fifth", look("/k"), 5);
        due("h went, the longest unused", child("h", 0), NONE);
        due("g stays", child("g", 0), 1);
        due("one trimmed", x.has(8), 1);
        due("its number is used again", look("/h"), 2);
        look("/a/b/c/d/e/f");
        due("those that hold stay, too many though", x.has(2), 7);
        due("f", child("f", child("e", child("d", child("c", child("b", child("a", 0)))))) >= 0, true);
        look("/g");
        due("the one just loaded is spared: f, then e, d that are free by it go", x.has(2), 5);
        due("f went", child("f", child("e", child("d", child("c", child("b", child("a", 0)))))), NONE);
        look("/i");
        due("c, used before g, goes", child("c", child("b", child("a", 0))), NONE);
        due("g stays", child("g", 0) >= 0, true);
    }

    private static void made() { // 19
        fresh(USUAL);
        due("a file", file("/a/q"), 11);
        due("its count", x.entry(child("q", 1), 3), 1);
        due("it is a file", x.node(11, 1), 0);
        due("in a", x.node(11, 2), 1);
        due("volume", x.node(11, 0), 0);
        due("a folder", folder("/new"), 12);
        due("in it", folder("/new/new/../in"), NONE);
        due("in it", folder("/new/./in"), 13);
        due("there", folder("/a/b"), NONE);
        due("there", file("/a/q"), NONE);
        due("root", folder("/"), NONE);
        due("in a file", file("/e/x"), NONE);
        due("in nothing", file("/w/x"), NONE);
        due("dot", folder("/new/."), NONE);
        due("dots", folder("/new/.."), NONE);
        due("none", folder("new"), NONE);
        due("two paths", folder("/n /m"), NONE);
        due("refused", x.status(3), 10);
        due("undone: those by walks, too", x.has(14), 11);
        mount("/new/in", 1);
        due("in a volume", file("/new/in/w"), 14);
        due("of that volume", x.node(14, 0), 1);
        due("in its root", x.node(14, 2), 6);
        due("over a covered one", file("/new/in"), NONE);
        makeSixty();
    }

    private static void makeSixty() {
        fresh("a;");
        for (int k = 2; k < 60; k++) {
            due("made " + k, file("/f"), k);
            due("removed " + k, remove("/f"), k);
        }
        int undone = x.has(14);
        int tick = x.has(6);
        due("60 ever", file("/g"), NONE);
        due("refused at once", x.has(6), tick);
        due("not to be undone", x.has(14), undone);
        due("the tape went", x.end(1), false);
        x.undo();
        x.undo();
        due("undone ones are none", file("/f"), 59);
    }

    private static void removed() { // 20
        fresh(USUAL);
        due("a file", remove("/e"), 5);
        due("an absence", x.entry(1, 1), NONE);
        due("its count", x.entry(1, 3), 1);
        due("its parent", x.entry(1, 0), 0);
        due("absences", x.has(3), 1);
        due("nodes", x.has(1), 10);
        due("nothing there", remove("/e"), NONE);
        due("with nodes", remove("/a/b"), NONE);
        due("root", remove("/"), NONE);
        due("blocked", remove("/a/d/x"), NONE);
        due("none", remove("x"), NONE);
        due("c", remove("/a/b/c"), 3);
        look("/a/b/w");
        look("/a/b/v");
        int before = x.has(2);
        due("a folder without nodes", remove("/a/b"), 2);
        due("absences below it go", x.has(2), before - 3);
        due("they are not trimmed", x.has(8), 0);
        due("made again", folder("/a/b"), 11);
        due("with a count", x.entry(child("b", child("a", 0)), 3), 2);
        mount("/a/b", 1);
        due("a root over it", remove("/a/b"), NONE);
        due("refused", x.status(3), 6);
    }

    private static void goneOnes() { // 20, 23, 6
        fresh(USUAL);
        open("/a/b/c");
        open("/a/b/c");
        int c = x.handle(0);
        int b = x.entry(c, 0);
        due("removed", remove("/a/b/c"), 3);
        due("gone", x.entry(c, 7), 1);
        due("without a parent", x.entry(c, 0), NONE);
        due("held twice", x.entry(c, 2), 2);
        due("its count", x.entry(c, 3), 1);
        due("its node", x.entry(c, 1), 3);
        due("its name", x.letter(true, c, 0), 3);
        due("b is not held by it", x.entry(b, 2), 0);
        due("no child", child("c", b), NONE);
        due("no child of none", child("c", NONE), NONE);
        due("nothing is there", look("/a/b/c"), NOTHING);
        due("gone ones", x.has(15), 1);
        due("entries", x.has(2), 5);
        due("not free", x.victim(NONE), 3);
        x.close(0);
        due("held once", x.entry(c, 2), 1);
        x.close(1);
        due("it goes", x.entry(c, 7), NONE);
        due("entries", x.has(2), 4);
        due("not trimmed", x.has(8), 0);
        // a walker that is HEAVY holds, too
        file("/a/b/c");
        begin("/a/b/c/w");
        x.trim(100);
        x.step(0);
        x.step(0);
        x.step(0);
        due("heavy", x.walker(0, 0), 1);
        remove("/a/b/c");
        due("gone by a walker", x.has(15), 1);
        x.quit(0);
        due("went with it", x.has(15), 0);
        // GONE ones take up room
        fresh("a b c d e f;");
        x.room(4);
        open("/a");
        open("/b");
        remove("/a");
        remove("/b");
        look("/c");
        look("/d");
        look("/e");
        due("two gone ones, two more", x.has(2), 5);
    }

    private static void renamed() { // 21
        fresh(USUAL);
        due("beside", rename("/a/b /a/bb"), 2);
        due("its count", x.entry(2, 3), 1);
        due("its name", x.letter(true, 2, 1), 2);
        due("its node's name", x.letter(false, 2, 1), 2);
        due("c is below", where("/a/bb/c"), 3);
        due("the old one is not", where("/a/b"), NOTHING);
        due("the absence went", x.has(3), 0);
        due("elsewhere", rename("/a/bb /w"), 2);
        due("in the root", x.entry(2, 0), 0);
        due("a holds nothing", x.entry(1, 2), 0);
        due("node in the root", x.node(2, 2), 0);
        due("there", rename("/w /e"), NONE);
        due("itself", rename("/w /w"), NONE);
        due("into itself", rename("/w /w/v"), NONE);
        folder("/w/v");
        due("below itself", rename("/w /w/v/u"), NONE);
        due("root", rename("/ /r"), NONE);
        due("to the root", rename("/w /"), NONE);
        due("to a dot", rename("/w /a/."), NONE);
        due("to dots", rename("/w /a/.."), NONE);
        due("into a file", rename("/w /e/w"), NONE);
        due("into nothing", rename("/w /n/w"), NONE);
        due("nothing", rename("/n /m"), NONE);
        due("refused by walks", x.status(3), 11);
        due("undone", x.has(14), 14);
        due("one path", rename("/w"), NONE);
        due("three", rename("/w /v /u"), NONE);
        due("two blanks", rename("/w  /v"), NONE);
        due("undone", x.has(14), 14);
        mount("/w", 1);
        due("to another volume", rename("/a /w/a"), NONE);
        due("from another volume", rename("/w/x /x"), NONE);
        due("a root over it", rename("/w /u"), NONE);
        due("in that volume", rename("/w/x/y /w/u") >= 0, true);
        // what is below goes along, a mount too
        due("into a", rename("/a /aa"), 1);
        due("what is below", where("/aa/d"), 4);
        renamedOrder();
    }

    private static void renamedOrder() {
        fresh(USUAL);
        rename("/n /a/b/m");
        due("refused ahead of the second walk", x.has(7), 1);
        rename("/a /a/m");
        due("refused ahead of the child", child("m", child("a", 0)), NONE);
        rename("/a/d /e");
        due("the child is come to", x.entry(child("e", 0), 4), x.has(6) - 1);
        // a mount goes along with the folder above it
        fresh(USUAL);
        mount("/a/b", 1);
        rename("/a /w");
        due("root over /w/b", where("/w/b/x"), 7);
        due("up again", where("/w/b/.."), 1);
    }

    private static void renamedWhileTrimmed() { // "it is HELD meanwhile"
        fresh("m n{o{p{q}}};");
        x.room(4);
        due("held while the second walk loads", rename("/m /n/o/p/z"), 1);
        due("the first one is there", x.entry(1, 0), child("p", child("o", child("n", 0))));
        due("more than room", x.has(2), 5);
    }

    private static void openedAndClosed() { // 22, 23
        fresh(USUAL);
        for (int k = 0; k < 6; k++) due("open " + k, open("/a"), k);
        due("held", x.entry(1, 2), 6);
        due("handles", x.has(9), 6);
        int tick = x.has(6);
        due("a seventh", open("/e"), NONE);
        due("at once", x.has(6), tick);
        due("close 2", x.close(2), true);
        due("close 2", x.close(2), false);
        due("close 6", x.close(6), false);
        due("close -1", x.close(-1), false);
        due("nothing", open("/q"), NONE);
        due("blocked", open("/e/q"), NONE);
        due("none", open("q"), NONE);
        due("the least that is free", open("/a/b"), 2);
        due("undone", x.has(14), 10);
        due("refused", x.status(4), 7);
        due("trim", x.trim(100), 2);
        due("held ones stay", x.has(2), 3);
    }

    private static void mounted() { // 24
        fresh(USUAL);
        due("a root", mount("/a/b", 1), 3);
        due("covered", x.entry(2, 6), 1);
        due("held", x.entry(2, 2), 1);
        due("count", x.entry(2, 3), 1);
        due("the root's node", x.entry(3, 1), 6);
        due("its parent", x.entry(3, 0), NONE);
        due("its count", x.entry(3, 3), 0);
        due("its birth", x.entry(3, 5), 4);
        due("its use", x.entry(3, 4), 4);
        due("not loaded", x.has(7), 2);
        due("mounted", x.has(11), 3);
        due("no root is free", x.victim(NONE), 0);
        due("comes to the root", look("/a/b"), 3);
        int tick = x.has(6);
        look("/a/b/..");
        due("root, a, b, its root, b, a", x.has(6), tick + 6);
        due("b is come to", x.entry(2, 4), tick + 4);
        due("a behind it", x.entry(1, 4), tick + 5);
        tick = x.has(6);
        due("twice", mount("/a", 1), NONE);
        due("volume 0", mount("/a", 0), NONE);
        due("volume 3", mount("/a", 3), NONE);
        due("volume -1", mount("/a", -1), NONE);
        due("none", mount("a", 2), NONE);
        due("at once", x.has(6), tick);
        due("the tape went", x.end(1), false);
        due("over a root", mount("/a/b", 2), NONE);
        due("over the root", mount("/", 2), NONE);
        due("over a file", mount("/e", 2), NONE);
        due("over nothing", mount("/q", 2), NONE);
        due("in a volume", mount("/a/b/x", 2) > 0, true);
        due("z", where("/a/b/x/z"), 10);
        due("up twice", where("/a/b/x/../.."), 1);
        due("refused", x.status(3), 9);
        // over a folder above another mount
        fresh(USUAL);
        mount("/a/b", 1);
        due("above", mount("/a", 2) > 0, true);
        due("another below", where("/a/b"), NOTHING);
        due("z", where("/a/z"), 10);
        due("mounted", x.has(11), 7);
    }

    private static void unmounted() { // 25
        fresh(USUAL);
        mount("/a/b", 1);
        look("/a/b/x/y");
        look("/a/b/w");
        due("volume 0", x.unmount(0), NONE);
        due("not mounted", x.unmount(2), NONE);
        due("none such", x.unmount(3), NONE);
        due("none such", x.unmount(-1), NONE);
        open("/a/b/x/y");
        due("held by a handle", x.unmount(1), NONE);
        remove("/a/b/x/y");
        due("by a gone one, too", x.unmount(1), NONE);
        x.close(0);
        mount("/a/b/x", 2);
        due("held by a volume", x.unmount(1), NONE);
        due("that first", x.unmount(2), 1);
        begin("/a/b/x/v/u");
        x.step(0);
        x.step(0);
        x.step(0);
        due("light", x.walker(0, 0), 0);
        due("a light one holds none", x.unmount(1), 3);
        due("covered", x.entry(2, 6), NONE);
        due("count", x.entry(2, 3), 2);
        due("held by none", x.entry(2, 2), 0);
        due("not trimmed", x.has(8), 0);
        due("mounted", x.has(11), 1);
        due("not in b", x.step(0), 0);
        due("it began anew", x.walker(0, 1), 1);
        due("nodes stay", x.node(7, 0), 1);
        x.undo();
        x.undo();
        due("undone", where("/a/b/x"), 7);
        trimAndHold();
    }

    private static void trimAndHold() {
        x.trim(100);
        x.quit(0);
        begin("/a/b/x/v");
        x.step(0);
        x.step(0);
        x.step(0);
        due("heavy", x.walker(0, 0), 1);
        due("held by a walker", x.unmount(1), NONE);
        x.quit(0);
        due("no more", x.unmount(1), 2);
    }

    private static void trimmed() { // 26
        fresh(USUAL);
        look("/a/b");
        look("/e");
        due("trim 0", x.trim(0), NONE);
        due("trim 101", x.trim(101), NONE);
        due("trim -1", x.trim(-1), NONE);
        due("undone", x.has(14), 2);
        due("trim 1", x.trim(1), 1);
        due("b went", x.entry(2, 0), NONE);
        due("a is free", x.victim(0), 1);
        due("trim 100", x.trim(100), 2);
        due("none is left", x.trim(100), 0);
        due("that counts, too", x.has(14), 5);
        due("trimmed", x.has(8), 3);
        due("refused", x.status(2), 3);
    }

    private static void rooms() { // 27
        fresh("a b c d e f g;");
        due("room 40", x.room(40), false);
        due("room 3", x.room(3), false);
        due("room 41", x.room(41), false);
        due("room 39", x.room(39), true);
        x.chance(40);
        due("all of them", x.has(2) > 6, true);
        int entries = x.has(2);
        due("room 4", x.room(4), true);
        due("nothing trimmed then", x.has(2), entries);
        look("/zz");
        due("four left", x.has(2), 5);
        due("refused", x.status(2), 3);
    }

    private static void chances() { // 28, 40
        fresh(USUAL);
        due("chance 0", x.chance(0), NONE);
        due("chance 41", x.chance(41), NONE);
        due("chance -1", x.chance(-1), NONE);
        // x = 1103527590, / 64 = 17242618, mod 6 nodes of volume 0 = 4: d, by a
        due("chance 1", x.chance(1), 2);
        due("d", child("d", child("a", 0)), 2);
        due("undone", x.has(14), 1);
        // x = (1103515245 * 1103527590 + 12345) mod 2^31 = 377401575, / 64 = 5896899, mod 6 = 3: c, by a, b
        due("chance 1 again", x.chance(1), 2);
        due("c", child("c", child("b", child("a", 0))) >= 0, true);
        due("undo", x.undo(), true);
        x.undo();
        due("seed 1", x.seed(1), true);
        due("two", x.chance(2), 4);
        // with a volume mounted there are three nodes more, by number
        fresh(USUAL);
        mount("/a/b", 1);
        // 17242618 mod 9 = 4
        due("nodes of mounted volumes", x.chance(1), 1);
        due("d", child("d", 1) >= 0, true);
        // 0, 2, 6: the root, b, the root over it
        due("in the memory", x.chance(3), 0);
        // 8: y
        due("by the folder it is over", x.chance(1), 2);
        // 3: c, which is below the covered b: an absence in the volume's root
        due("a covered one", x.chance(1), 1);
        due("c in the root", x.entry(child("c", 3), 0), 3);
        due("refused", x.status(2), 0);
        chancesBySeed();
    }

    private static void chancesBySeed() {
        fresh(USUAL);
        long seed = 2147483647L;
        x.seed(2147483647);
        String[] paths = {"/", "/a", "/a/b", "/a/b/c", "/a/d", "/e"};
        NameKeeper drawn = x;
        fresh(USUAL);
        NameKeeper looked = x;
        for (int k = 0; k < 30; k++) {
            seed = (1103515245L * seed + 12345L) % (1L << 31);
            x = looked;
            look(paths[(int) (seed / 64 % 6)]);
            x = drawn;
            x.chance(1);
            due("tick " + k, drawn.has(6), looked.has(6));
        }
    }

    private static void walkersLight() { // 11, 29, 30, 31
        fresh(USUAL);
        look("/a/b/c");
        int tick = x.has(6);
        due("begin", begin("/a/./b/../b/c"), 0);
        due("the root is come to", x.has(6), tick + 1);
        due("heavy", x.walker(0, 0), 0);
        due("steps", x.walker(0, 3), 6);
        due("way", x.walker(0, 4), 1);
        due("result", x.result(0), NONE);
        int[] ways = {2, 2, 3, 4, 5};
        int[] places = {1, 1, 2, 1, 2};
        for (int k = 0; k < 5; k++) {
            due("step " + k, x.step(0), 0);
            due("done", x.walker(0, 2), k + 1);
            due("way", x.walker(0, 4), ways[k]);
            due("where", x.walker(0, 5), places[k]);
            due("light", x.walker(0, 0), 0);
        }
        due("nothing held", x.entry(2, 2), 1);
        due("over", x.step(0), 1);
        due("node", x.result(0), 3);
        due("entry", x.result(1), 3);
        due("restarts", x.result(2), 0);
        due("light", x.result(3), 0);
        due("result 4", x.result(4), NONE);
        due("result -1", x.result(-1), NONE);
        due("no more", x.walker(0, 0), NONE);
        due("no more", x.step(0), NONE);
        due("quit", x.quit(0), false);
        due("loaded nothing", x.has(7), 3);
        due("refused", x.status(5), 2);
        look("/q");
        begin("/q/r");
        due("an absence in the memory", x.step(0), NOTHING);
        due("light", x.result(3), 0);
        due("no entry", x.result(1), NONE);
        begin("/a/b/c/d");
        x.step(0);
        x.step(0);
        x.step(0);
        due("at a file", x.step(0), BLOCKED);
        due("heavy at a file", x.result(3), 1);
        due("blocked", x.result(0), BLOCKED);
        due("no entry", x.result(1), NONE);
        walkersMany();
    }

    private static void walkersMany() {
        for (int k = 0; k < 4; k++) due("begin " + k, begin("/a"), k);
        int tick = x.has(6);
        due("a fifth", begin("/a"), NONE);
        due("at once", x.has(6), tick);
        due("none", begin("a"), NONE);
        due("walkers", x.has(10), 4);
        due("quit 2", x.quit(2), true);
        due("step 2", x.step(2), NONE);
        due("step 4", x.step(4), NONE);
        due("step -1", x.step(-1), NONE);
        due("quit 4", x.quit(4), false);
        due("quit -1", x.quit(-1), false);
        due("walker 4", x.walker(4, 0), NONE);
        due("walker -1", x.walker(-1, 0), NONE);
        due("walker what 6", x.walker(1, 6), NONE);
        due("walker what -1", x.walker(1, -1), NONE);
        due("the least", begin("/"), 2);
        due("no steps", x.walker(2, 3), 0);
        due("found at once", x.step(2), 1);
        due("root", x.result(0), 0);
        due("entry", x.result(1), 0);
    }

    private static void walkersHeavy() { // 11, 32
        fresh(USUAL);
        begin("/a/../a/b/c");
        due("step", x.step(0), 0);
        due("heavy", x.walker(0, 0), 1);
        due("root held by a and by it", x.entry(0, 2), 2);
        due("a held", x.entry(1, 2), 1);
        x.step(0);
        due("root as often as it is there", x.entry(0, 2), 3);
        x.step(0);
        due("a as often as it is there", x.entry(1, 2), 2);
        due("nothing to trim", x.trim(100), 0);
        due("quit", x.quit(0), true);
        due("let go", x.entry(1, 2), 0);
        due("root held by a", x.entry(0, 2), 1);
        begin("/a/b/c");
        x.step(0);
        due("light while all is there", x.walker(0, 0), 0);
        x.step(0);
        due("heavy at b", x.walker(0, 0), 1);
        due("a held by b, it", x.entry(1, 2), 2);
        due("found", x.step(0), 1);
        due("heavy", x.result(3), 1);
        due("all let go", x.entry(1, 2), 1);
        due("c held by none", x.entry(3, 2), 0);
    }

    private static void walkersRestarted() { // 30, 31
        fresh("a{b{c{d}}}e;x;");
        look("/a/b/c/d");
        begin("/a/b/c/d");
        x.step(0);
        x.step(0);
        rename("/a/b /w");
        rename("/w /a/b");
        due("first anew", x.step(0), 0);
        due("restarts", x.walker(0, 1), 1);
        due("heavy", x.walker(0, 0), 1);
        due("done", x.walker(0, 2), 1);
        due("way", x.walker(0, 4), 2);
        due("root held by a, it", x.entry(0, 2), 2);
        x.step(0);
        due("b", x.walker(0, 5), 2);
        mount("/a/b", 1);
        x.unmount(1);
        due("second anew", x.step(0), 0);
        due("restarts", x.walker(0, 1), 2);
        due("done", x.walker(0, 2), 1);
        rename("/a /w");
        rename("/w /a");
        due("third: all at once", x.step(0), 1);
        due("d", x.result(0), 4);
        due("restarts", x.result(2), 3);
        due("heavy", x.result(3), 1);
        due("no more", x.has(10), 0);
        due("b held by c", x.entry(2, 2), 1);
        // another one by the same number
        look("/e");
        begin("/e/.");
        x.step(0);
        int e = x.walker(0, 5);
        x.trim(100);
        look("/q");
        look("/r");
        due("light: it may go", x.entry(e, 1) == 5, false);
        due("anew", x.step(0), 0);
        due("restarts", x.walker(0, 1), 1);
        due("found", x.step(0), 1);
        due("e", x.result(0), 5);
        walkersByNumber();
    }

    private static void walkersByNumber() {
        fresh("a b;");
        look("/a");
        begin("/a/.");
        x.step(0);
        x.trim(1);
        look("/a");
        due("the same number", child("a", 0), 1);
        due("the same count", x.entry(1, 3), 0);
        due("another birth", x.step(0), 0);
        due("restarts", x.walker(0, 1), 1);
        // removed under a light one: an absence with another count
        fresh("a b;");
        look("/a");
        begin("/a/.");
        x.step(0);
        remove("/a");
        due("nothing", x.step(0), NOTHING);
        due("restarts", x.result(2), 1);
        // a walk whose way has nothing on it that changed goes on
        fresh("a{b}c;");
        look("/a");
        begin("/a/b");
        x.step(0);
        remove("/c");
        due("goes on", x.step(0), 1);
        due("restarts", x.result(2), 0);
    }

    private static void walkersOverMounts() {
        fresh(USUAL);
        mount("/a/b", 1);
        begin("/a/b/../d");
        x.step(0);
        x.step(0);
        due("b and its root", x.walker(0, 4), 4);
        due("at the root", x.walker(0, 5), 3);
        x.step(0);
        due("b and a again", x.walker(0, 4), 6);
        due("at a", x.walker(0, 5), 1);
        x.unmount(1);
        due("anew", x.step(0), 0);
        due("restarts", x.walker(0, 1), 1);
        // the longest way there is: two for each of twelve steps
        fresh(USUAL);
        mount("/a", 1);
        begin("/a/../a/../a/../a/../a/../a/..");
        for (int k = 1; k < 12; k++) {
            due("step " + k, x.step(0), 0);
            due("way " + k, x.walker(0, 4), 1 + 2 * k);
        }
        due("found", x.step(0), 1);
        due("the root", x.result(1), 0);
        due("light", x.result(3), 0);
    }

    private static void traces() { // 33, 34, 35, 36, 37
        fresh(USUAL);
        due("no trace", x.loads(4), NONE);
        due("no trace", x.least(100), NONE);
        due("no trace", x.fits(NONE), NONE);
        due("no trace", x.tells(0), NONE);
        due("no trace", x.see(0), false);
        due("none", trace("a"), NONE);
        due("empty", trace(""), NONE);
        due("blank behind", trace("/a "), NONE);
        due("two blanks", trace("/a  /b"), NONE);
        due("thirteen", trace("/ / / / / / / / / / / / /"), NONE);
        due("twelve", trace("/ / / / / / / / / / / /"), 12);
        due("nothing is loaded", x.loads(4), 0);
        due("three", trace("/a/b /e /q"), 3);
        due("loads", x.loads(4), 4);
        due("loads 3", x.loads(3), NONE);
        due("loads 41", x.loads(41), NONE);
        due("loads 40", x.loads(40), 4);
        due("least 4", x.least(4), 4);
        due("least 3", x.least(3), NONE);
        due("least -1", x.least(-1), NONE);
        due("all fit", x.fits(NONE), 37);
        due("first", x.fits(0), 4);
        due("last", x.fits(36), 40);
        due("behind", x.fits(37), NONE);
        due("-2", x.fits(-2), NONE);
        due("see -1", x.see(-1), false);
        due("see 0", x.see(0), true);
        due("none fits 0", x.fits(NONE), 0);
        due("see 4", x.see(4), true);
        due("seen", x.has(13), 4);
        due("all fit", x.fits(NONE), 37);
        due("see 5", x.see(5), true);
        due("none fits", x.fits(NONE), 0);
        due("none fits", x.fits(0), NONE);
        due("none tells", x.tells(0), NONE);
        look("/a/b");
        due("by a memory of its own", x.loads(4), 4);
        due("seen stays", x.has(13), 5);
        file("/q");
        file("/e/f");
        due("trees as they are", x.loads(4), 4);
        due("refused all staying", trace("/a /b c"), NONE);
        due("paths", x.has(12), 3);
        due("seen", x.has(13), 5);
        due("the next one", trace("/a"), 1);
        due("nothing seen", x.has(13), NONE);
        due("refused", x.status(5), 8);
        due("no acts", x.has(14), 3);
        tracesOverMounts();
    }

    private static void tracesOverMounts() {
        fresh("a{b{c{d{e{f}}}}}g h i;x y;");
        trace("/g /h /g /h");
        due("two", x.loads(4), 2);
        mount("/a/b/c/d/e", 1);
        // the five above it stay, so that by a room of 4 .. 5 each goes when the next one comes
        due("room 4", x.loads(4), 4);
        due("room 5", x.loads(5), 4);
        due("room 6", x.loads(6), 4);
        due("room 7", x.loads(7), 2);
        due("least", x.least(2), 7);
        due("least", x.least(3), 7);
        due("least", x.least(4), 4);
        x.see(4);
        due("fits", x.fits(NONE), 3);
        due("fits 2", x.fits(2), 6);
        x.see(2);
        due("fits", x.fits(NONE), 34);
        due("fits 0", x.fits(0), 7);
        trace("/a/b/c/d/e/x");
        due("mounts are in the memory", x.loads(40), 1);
        x.unmount(1);
        due("no more", x.loads(40), 6);
    }

    private static void tracesTell() { // 38
        fresh("a b c d e f g h;");
        trace("/a /b /c /d /e /f /a /b");
        // a and b again: by 4, 5 both are loaded anew, by 6 and on neither is
        due("loads 4", x.loads(4), 8);
        due("loads 5", x.loads(5), 8);
        due("loads 6", x.loads(6), 6);
        due("tells", x.tells(0), 6);
        due("left", x.tells(1), 35);
        due("tells 2", x.tells(2), NONE);
        due("tells -1", x.tells(-1), NONE);
        x.see(8);
        due("all paths alike: the first", x.tells(0), 0);
        due("left", x.tells(1), 2);
        trace("/a /b/c");
        due("nothing tells", x.tells(0), 0);
        due("all left", x.tells(1), 37);
        x.see(7);
        due("no fits", x.tells(1), NONE);
    }

    private static void undone() { // 39
        fresh(USUAL);
        due("none", x.undo(), false);
        look("/a/b/c");
        x.undo();
        due("tick", x.has(6), 1);
        due("entries", x.has(2), 1);
        due("loaded", x.has(7), 0);
        due("none", x.undo(), false);
        due("refused", x.status(4), 2);
        file("/f");
        x.undo();
        due("no node", x.node(11, 0), NONE);
        due("the number again", file("/f"), 11);
        remove("/f");
        x.undo();
        due("there again", where("/f"), 11);
        rename("/a/b /b");
        x.undo();
        due("back", where("/a/b/c"), 3);
        mount("/a/b", 1);
        x.undo();
        due("not mounted", x.has(11), 1);
        mount("/a/b", 1);
        x.unmount(1);
        x.undo();
        due("mounted", x.has(11), 3);
        open("/e");
        x.undo();
        due("no handle", x.handle(0), NONE);
        open("/e");
        x.close(0);
        x.undo();
        due("a handle", x.handle(0) >= 0, true);
        int entries = x.has(2);
        x.trim(100);
        x.undo();
        due("not trimmed", x.has(2), entries);
        due("nor counted", x.has(8), 0);
        x.room(7);
        x.undo();
        due("room", x.has(5), 40);
        undoneWalkers();
        undoneDepth();
    }

    private static void undoneWalkers() {
        begin("/a/d");
        x.undo();
        due("no walker", x.has(10), 0);
        begin("/a/d");
        x.step(0);
        x.step(0);
        due("over", x.has(10), 0);
        x.undo();
        due("it is again", x.walker(0, 2), 1);
        due("its result stays", x.result(0), 4);
        x.quit(0);
        x.undo();
        due("it is again", x.walker(0, 2), 1);
        due("and goes on", x.step(0), 1);
        undoneRestart();
        trace("/a");
        x.see(3);
        x.seed(1);
        x.chance(1);
        x.undo();
        due("trace stays", x.has(12), 1);
        due("seen stays", x.has(13), 3);
    }

    private static void undoneRestart() {
        NameKeeper before = x;
        fresh("a b;");
        look("/a");
        begin("/a/.");
        x.step(0);
        x.trim(1);
        look("/a");
        due("anew", x.step(0), 0);
        x.undo();
        due("not yet", x.walker(0, 1), 0);
        due("light", x.walker(0, 0), 0);
        due("its way is that of before: anew again", x.step(0), 0);
        due("restarts", x.walker(0, 1), 1);
        x = before;
    }

    private static void undoneDepth() {
        fresh(USUAL);
        for (int k = 0; k < 25; k++) look("/");
        due("twenty", x.has(14), 20);
        for (int k = 0; k < 20; k++) due("undo " + k, x.undo(), true);
        due("no more", x.undo(), false);
        due("five stay", x.has(6), 6);
        for (int k = 0; k < 3; k++) look("/");
        x.undo();
        due("two", x.has(14), 2);
        due("seven", x.has(6), 8);
        // the seed stays: what is drawn behind an undo is another one
        fresh(USUAL);
        x.chance(1);
        x.undo();
        x.chance(1);
        due("c, not d", child("c", child("b", child("a", 0))) >= 0, true);
    }

    private static void undoneRefusals() { // 39, 41
        fresh(USUAL);
        due("by its walk", file("/a/b"), NONE);
        due("what was loaded stays", x.has(7), 2);
        due("to be undone", x.has(14), 1);
        x.undo();
        due("nothing loaded", x.has(7), 0);
        due("refused all the same", x.status(3), 1);
        due("open by its walk", open("/q"), NONE);
        due("mount by its walk", mount("/e", 1), NONE);
        due("remove by its walk", remove("/a"), NONE);
        due("rename by its walk", rename("/a /e"), NONE);
        due("to be undone", x.has(14), 4);
        due("unmount", x.unmount(1), NONE);
        due("close", x.close(0), false);
        due("step", x.step(0), NONE);
        due("quit", x.quit(0), false);
        due("room", x.room(40), false);
        due("trim", x.trim(0), NONE);
        due("chance", x.chance(0), NONE);
        due("look", look("a"), NONE);
        due("begin", begin("a"), NONE);
        due("still four", x.has(14), 4);
        due("make / comes to the root", folder("/"), NONE);
        due("five", x.has(14), 5);
    }

    private static void seeds() { // 40
        x = new NameKeeper();
        due("seed 0", x.seed(0), true);
        due("seed -1", x.seed(-1), false);
        due("seed least", x.seed(Integer.MIN_VALUE), false);
        due("refused", x.status(5), 2);
        trees(USUAL);
        // x = 12345, / 64 = 192, mod 6 = 0: the root
        due("the seed stays over trees", x.chance(1), 0);
        due("the root", x.has(6), 2);
    }

    private static void refusals() { // 41
        x = new NameKeeper();
        x.end(1);
        x.trees();
        x.look(); x.trim(1); x.room(5); x.chance(1);
        x.make(true); x.remove(); x.rename(); x.mount(1); x.unmount(1);
        x.open(); x.close(0); x.undo();
        x.begin(); x.step(0); x.quit(0); x.trace(); x.see(0); x.seed(-1);
        x.where(); x.needs(); x.child(0); x.path(0);
        int[] want = {1, 1, 4, 5, 3, 6};
        for (int k = 0; k < 6; k++) due("status " + k, x.status(k), want[k]);
        due("status 6", x.status(6), NONE);
        due("status -1", x.status(-1), NONE);
    }

    /** The run of calls that README.md shows. */
    private static void readme() {
        x = new NameKeeper();
        due("README: trees", trees("a{b{c}d}e; x{y};"), 2);
        due("README: where", where("/a/d"), 4);
        due("README: needs", needs("/a/d"), 2);
        due("README: look", look("/a/b/c"), 3);
        due("README: make", folder("/a/q"), 9);
        due("README: mount", mount("/a/q", 1), 5);
        due("README: open", open("/a/q/x/y"), 0);
        due("README: path", x.path(0), 8);
        due("README: octet", x.octet(7), 'y');
        due("README: begin", begin("/a/b"), 0);
        due("README: step", x.step(0), 0);
        due("README: step", x.step(0), 1);
        due("README: result", x.result(0), 2);
        due("README: trace", trace("/a/b/c /e /a/b/c"), 3);
        due("README: loads", x.loads(4), 4); // e takes the place of c, c that of e
        due("README: loads", x.loads(5), 3);
        due("README: look", look("a"), NONE);
        due("README: status", x.status(2), 1);
        due("README: undo", x.undo(), true);
        due("README: the walker again", x.walker(0, 2), 1);
    }
}
