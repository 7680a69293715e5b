/** The boundary cases of the document's terms III (TRACES): each sentence at its boundary and just beyond it. */
public final class TracesBoundariesTest extends Script {
    public static void main(String[] args) {
        pathsOneToTwelve();
        loadedOneBehindTheOther();
        loadedByARoom();
        treesAsTheyAre();
        mountsAsTheyAre();
        memoryHasMountsAlone();
        mountsCountAgainstTheRoom();
        nothingElseIsHeld();
        fitsAreRoomsByWhichThatIsSo();
        tellingTheFewest();
        tellingByFitsAlone();
        tellingByItsOwnNumber();
        tellingTheFirstOfLikeOnes();
        finish("the boundaries of the traces are kept");
    }

    private static void pathsOneToTwelve() {
        sentence("A TRACE are PATHS, 1 to 12");
        fresh("a;");
        due("none", trace(""), NONE);
        due("1", trace("/"), 1);
        due("2", trace("/a /"), 2);
        due("12", trace("/a" + times(11, " /a")), 12);
        due("12 are there", x.has(12), 12);
        due("13", trace("/a" + times(12, " /a")), NONE);
        due("12 are there yet", x.has(12), 12);
        due("one that is none among them", trace("/a" + times(10, " /a") + " a"), NONE);
        due("12 steps in the second", trace("/a " + times(12, "/a")), 2);
        due("13 steps in it", trace("/a " + times(13, "/a")), NONE);
        due("8 of 12 steps, 391 bytes", trace(times(12, "/abc") + times(7, " " + times(12, "/abc"))), 8);
    }

    private static void loadedOneBehindTheOther() {
        sentence("it LOADS as many ENTRIES as are LOADED when its PATHS are LOOKED at one behind the other");
        fresh("a{b}c;");
        trace("/a/b");
        due("a, b", x.loads(40), 2);
        trace("/a /a/b /a");
        due("none twice", x.loads(40), 2);
        trace("/ /. /..");
        due("none", x.loads(40), 0);
        trace("/q /q/r /c/d");
        due("an ABSENCE once, c", x.loads(40), 2);
        due("nothing is LOADED", x.has(7), 0);
        due("nothing is come to", x.has(6), 1);
    }

    private static void loadedByARoom() {
        sentence("By a ROOM it LOADS as many ENTRIES");
        fresh(names(6) + ";");
        trace("/a /b /c /d /e /a");
        due("4: a went when e came", x.loads(4), 6);
        due("5: all stay", x.loads(5), 5);
        due("40", x.loads(40), 5);
        trace("/a /b /c /d /a /e /a");
        due("4: b went, a was come to again", x.loads(4), 5);
        trace("/a /b /c /d /a");
        due("4 are not more than 4", x.loads(4), 4);
    }

    private static void treesAsTheyAre() {
        sentence("TREES .. as they are");
        fresh("a b{};");
        trace("/a/q /b/q");
        due("a; b, q", x.loads(4), 3);
        remove("/a");
        folder("/a");
        due("a, q; b, q", x.loads(4), 4);
        remove("/b");
        due("a, q; b", x.loads(4), 3);
        x.undo();
        due("a, q; b, q", x.loads(4), 4);
        due("of the TRACE yet", x.has(12), 2);
    }

    private static void mountsAsTheyAre() {
        sentence("MOUNTS as they are");
        fresh("a{b{c}};b;");
        trace("/a/b/c");
        due("a, b, c", x.loads(4), 3);
        mount("/a", 1);
        due("b of volume 1, a file", x.loads(4), 1);
        x.unmount(1);
        due("a, b, c", x.loads(4), 3);
        mount("/a/b", 1);
        due("c below the ROOT over b", x.loads(4), 1);
    }

    private static void memoryHasMountsAlone() {
        sentence("with a MEMORY that has ROOTS and COVERED ENTRIES with those above them alone");
        fresh("a{b{c{}}d}e;x;");
        trace("/a /a/b /a/b/c /a/d /e");
        due("all five", x.loads(40), 5);
        look("/a/b/c");
        look("/e");
        due("what is in the MEMORY else is not in it", x.loads(40), 5);
        mount("/a/b/c", 1);
        due("a, b, c are", x.loads(40), 2);
        trace("/a/b/c/x /a/b/c/x");
        look("/a/b/c/x");
        due("x is not", x.loads(40), 1);
        x.trim(100);
        due("nor when it went", x.loads(40), 1);
    }

    private static void mountsCountAgainstTheRoom() {
        sentence("as many ENTRIES as are LOADED .. with a MEMORY that has .. COVERED ENTRIES with those above them");
        fresh("a{b{c{d{}}}}e f;;");
        trace("/e /f /e");
        due("by 4", x.loads(4), 2);
        mount("/a/b/c/d", 1);
        due("by 4: four are HELD, one more at most", x.loads(4), 3);
        due("by 5: e went when f came", x.loads(5), 3);
        due("by 6", x.loads(6), 2);
        x.unmount(1);
        mount("/a/b/c", 1);
        due("by 4: three are HELD", x.loads(4), 3);
        due("by 5", x.loads(5), 2);
    }

    private static void nothingElseIsHeld() {
        sentence("nothing else HELD");
        fresh(names(9) + ";");
        for (String name : names(4).split(" ")) open("/" + name);
        begin("/e/.");
        x.step(0);
        trace("/a /b /c /d /f /a /g");
        due("by 4: handles hold none in it", x.loads(4), 7);
        trace("/f /g /h /i /f");
        due("by 4: nor do walkers", x.loads(4), 4);
        due("ROOM itself is 40 yet", x.has(5), 40);
        open("/f");
        remove("/f");
        due("GONE ones are not in it", x.has(15), 1);
        trace("/g /h /i /e /g");
        due("by 4", x.loads(4), 4);
    }

    private static void fitsAreRoomsByWhichThatIsSo() {
        sentence("SEEN is how many it LOADED: FITS are ROOMS 4 .. 40 by which that is so");
        fresh(names(6) + ";");
        trace("/a /b /c /d /e /a");
        x.see(6);
        due("4 alone", x.fits(NONE), 1);
        due("4", x.fits(0), 4);
        x.see(5);
        due("5 .. 40", x.fits(NONE), 36);
        due("5", x.fits(0), 5);
        due("40", x.fits(35), 40);
        due("no 41", x.fits(36), NONE);
        x.see(4);
        due("none by fewer", x.fits(NONE), 0);
        x.see(7);
        due("none by more", x.fits(NONE), 0);
    }

    private static void tellingTheFewest() {
        sentence("TELLING is the PATH of the TRACE by whose number of ENTRIES LOADED the most FITS left are fewest");
        fresh(names(8) + ";");
        // c is LOADED again by 4, 5; a by 4 .. 7: 35 and 33 FITS are left at the most
        trace("/a /b /c /d /e /f /g /h /c /a");
        due("a", x.tells(0), 9);
        due("33", x.tells(1), 33);
        trace("/a /b /c /d /e /f /g /h /c");
        due("without a: c", x.tells(0), 8);
        due("35", x.tells(1), 35);
        trace("/a /b /c /d /e /f /g /h /a /c");
        // by 6 c went when a came again, by 7 it stays: 4 .. 6, 34 left
        due("a, ahead of c", x.tells(0), 8);
        due("33", x.tells(1), 33);
    }

    private static void tellingByFitsAlone() {
        sentence("the most FITS left");
        fresh(names(8) + ";");
        trace("/a /b /c /d /e /f /g /h /c /a");
        due("by 4, 5", x.loads(5), 10);
        due("by 6, 7", x.loads(7), 9);
        due("by 8 and on", x.loads(8), 8);
        x.see(9);
        due("6, 7", x.fits(NONE), 2);
        due("none tells more", x.tells(0), 0);
        due("both are left", x.tells(1), 2);
        trace("/a /b /c /d /e /a");
        x.see(6);
        due("4 alone", x.fits(NONE), 1);
        due("the first", x.tells(0), 0);
        due("one is left", x.tells(1), 1);
        x.see(11);
        due("no FITS", x.tells(0), NONE);
        due("no FITS", x.tells(1), NONE);
    }

    /** A PATH that comes to some NAMES of the ROOT, one behind the other. */
    private static String beside(String[] names, int from, int to) {
        StringBuilder path = new StringBuilder("/" + names[from]);
        for (int k = from + 1; k < to; k++) path.append("/../").append(names[k]);
        return path.toString();
    }

    private static void tellingByItsOwnNumber() {
        sentence("the PATH of the TRACE by whose number of ENTRIES LOADED");
        fresh(names(25) + ";");
        String[] names = names(25).split(" ");
        String row = beside(names, 0, 6) + " " + beside(names, 6, 12) + " " + beside(names, 12, 18) + " " + beside(names, 18, 24);
        // the first again: LOADED by 4 .. 24; the 13th again: LOADED by 4 .. 13
        due("seven", trace(row + " /" + names[24] + " /" + names[0] + " /" + names[12]), 7);
        due("by 24", x.loads(24), 26);
        due("by 25", x.loads(25), 25);
        due("by 13", x.loads(13), 27);
        due("by 14", x.loads(14), 26);
        due("the first again", x.tells(0), 5);
        due("4 .. 24 are left at the most", x.tells(1), 21);
    }

    private static void tellingTheFirstOfLikeOnes() {
        sentence("of like ones the first");
        fresh(names(8) + ";");
        trace("/a /b");
        due("all alike", x.tells(0), 0);
        due("all left", x.tells(1), 37);
        trace("/a /b /c /d /e /a /b");
        // a and b are LOADED again by 4 alone
        due("a, b alike", x.tells(0), 5);
        due("36", x.tells(1), 36);
        trace("/a");
        due("one alone", x.tells(0), 0);
    }
}
