/** The boundary cases of the document's terms I (TREES, PATHS): each sentence at its boundary and just beyond it. */
public final class TreesBoundariesTest extends Script {
    public static void main(String[] args) {
        volumesOneToThree();
        volumeHasRoot();
        fortyNodes();
        fortyNodesWithRoots();
        numberedAsTheyBegin();
        bracesEightDeep();
        bracesEightDeepBeside();
        namesOneToFourLetters();
        lettersAToZ();
        namesUnlikeInAFolder();
        blanksWhereOneLikes();
        nothingElseIsBlank();
        namesNeedABlank();
        faultsTheFirstAlong();
        faultAtTheFirstByte();
        faultAtTheFifthLetter();
        faultAtTheLength();
        faultAtTheNameThatIsThere();
        faultAtTheNodeTooMany();
        faultAtTheBraceTooMany();
        faultAtTheFourthVolume();
        fourthVolumeAheadOfOthers();
        pathIsASlashAlone();
        pathOfTwelveSteps();
        stepIsANameOrDots();
        pathHasNothingElse();
        pathsHaveOneBlankBetween();
        finish("the boundaries of the trees are kept");
    }

    private static void volumesOneToThree() {
        sentence("TREES are a text of VOLUMES, 1 to 3");
        x = new NameKeeper();
        due("none", trees(""), NONE);
        due("blanks are none", trees(" \n"), NONE);
        due("one", trees(";"), 1);
        due("two", trees("a;;"), 2);
        due("three", trees(";a;b{}c;"), 3);
        due("has three", x.has(0), 3);
        due("four", trees(";a;b;c;"), NONE);
        due("has three still", x.has(0), 3);
    }

    private static void volumeHasRoot() {
        sentence("Each VOLUME has a ROOT, a folder");
        fresh(";;");
        due("nodes", x.has(1), 2);
        for (int root = 0; root < 2; root++) {
            due("volume", x.node(root, 0), root);
            due("a folder", x.node(root, 1), 1);
            due("in none", x.node(root, 2), NONE);
            due("of nothing", x.node(root, 3), 0);
        }
        due("no more", x.node(2, 0), NONE);
    }

    private static void fortyNodes() {
        sentence("NODES .. 40 at most");
        x = new NameKeeper();
        due("39", trees(names(38) + ";"), 1);
        due("nodes", x.has(1), 39);
        due("40", trees(names(39) + ";"), 1);
        due("nodes", x.has(1), 40);
        due("the last one", x.node(39, 2), 0);
        due("none behind it", x.node(40, 0), NONE);
        due("41", trees(names(40) + ";"), NONE);
        due("41 in a folder", trees(names(39) + "{a};"), NONE);
        due("40, one a folder", trees(names(39) + "{};"), 1);
    }

    private static void fortyNodesWithRoots() {
        sentence("NODES (ROOTS, files, folders) are numbered from 0 on .. 40 at most");
        x = new NameKeeper();
        due("a ROOT is the 40th", trees(names(38) + ";;"), 2);
        due("nodes", x.has(1), 40);
        due("it is in volume 1", x.node(39, 0), 1);
        faulty(names(39) + ";;", 5, names(39).length() + 1);
        faulty(names(39) + "; a;", 5, names(39).length() + 2);
        // the ROOT is the 40th, the file that begins with it the 41st
        faulty(names(38) + ";a;", 5, names(38).length() + 1);
        due("three ROOTS, 37 more", trees(names(37) + ";;;"), 3);
        due("nodes", x.has(1), 40);
    }

    private static void numberedAsTheyBegin() {
        sentence("NODES .. are numbered from 0 on as they begin along the text");
        fresh("b{a}c;d{e{}};");
        int[] volumes = {0, 0, 0, 0, 1, 1, 1};
        int[] folders = {NONE, 0, 1, 0, NONE, 4, 5};
        int[] letters = {0, 2, 1, 3, 0, 4, 5};
        for (int n = 0; n < 7; n++) {
            due("volume of " + n, x.node(n, 0), volumes[n]);
            due("folder of " + n, x.node(n, 2), folders[n]);
            due("letter of " + n, x.letter(false, n, 0), letters[n]);
        }
        due("no more", x.node(7, 0), NONE);
        due("none ahead", x.node(-1, 0), NONE);
    }

    private static void bracesEightDeep() {
        sentence("braces 8 deep at most");
        x = new NameKeeper();
        due("8 deep", trees(times(8, "a{") + times(8, "}") + ";"), 1);
        due("with a file in the 8th", trees(times(8, "a{") + "a" + times(8, "}") + ";"), 1);
        due("that is the 9th below the ROOT", x.node(9, 2), 8);
        due("9 deep", trees(times(9, "a{") + times(9, "}") + ";"), NONE);
        due("FAULT", x.fault(0), 5);
    }

    private static void bracesEightDeepBeside() {
        sentence("braces 8 deep at most (deep, not many)");
        x = new NameKeeper();
        String deep = times(8, "a{") + times(8, "}");
        due("twice in a volume", trees(deep + " b" + deep.substring(1) + ";"), 1);
        due("nodes", x.has(1), 17);
        due("in two volumes", trees(deep + ";" + deep + ";"), 2);
        due("ten beside each other", trees("a{}b{}c{}d{}e{}f{}g{}h{}i{}j{};"), 1);
    }

    private static void namesOneToFourLetters() {
        sentence("NAMES: 1 to 4 letters");
        x = new NameKeeper();
        due("1, 2, 3, 4", trees("a bc def ghij;"), 1);
        int[] wants = {1, 0, 0, 0, 2, 3, 0, 0, 4, 5, 6, 0, 7, 8, 9, 10};
        for (int k = 0; k < 16; k++) due("letter " + k, x.letter(false, 1 + k / 4, k % 4), wants[k]);
        due("5", trees("abcde;"), NONE);
        due("5 in a folder", trees("a{abcde};"), NONE);
        due("none ahead of a brace", trees("{a};"), NONE);
    }

    private static void lettersAToZ() {
        sentence("letters a .. z");
        x = new NameKeeper();
        due("a, z", trees("az;"), 1);
        due("a", x.letter(false, 1, 0), 1);
        due("z", x.letter(false, 1, 1), 26);
        for (char beside : new char[] {'`', '|', 'A', 'Z', '0', '_', (char) 225, (char) 255, 0}) {
            faulty(beside + ";", 1, 0);
            faulty("a" + beside + ";", 1, 1);
        }
        // z + 1 is the brace that opens, which no text begins with
        faulty("{;", 1, 0);
    }

    private static void namesUnlikeInAFolder() {
        sentence("NAMES .. unlike in a folder");
        x = new NameKeeper();
        due("in a folder and in it", trees("a{a{a}};"), 1);
        due("in two folders", trees("a{c}b{c};"), 1);
        due("in two volumes", trees("a;a;"), 2);
        due("one the other's beginning", trees("a ab abc abcd b;"), 1);
        due("unlike at the 4th letter", trees("abcd abce;"), 1);
        due("behind a folder that has it", trees("b{a}a;"), 1);
        due("files alike", trees("a a;"), NONE);
        due("alike by 4 letters", trees("abcd abcd;"), NONE);
        due("a file, a folder", trees("a b a{};"), NONE);
        due("folders", trees("a{}a{};"), NONE);
        due("in a folder", trees("a{b c b};"), NONE);
        due("in the second volume", trees("a;b b;"), NONE);
    }

    private static void blanksWhereOneLikes() {
        sentence("Blanks (10, 32) are where one likes");
        x = new NameKeeper();
        due("none", trees("a{b}c{};d;"), 2);
        due("everywhere", trees(" \n a \n { \n b \n } \n c \n { \n } \n ; \n d \n ; \n "), 2);
        due("nodes", x.has(1), 6);
        due("c", x.letter(false, 3, 0), 3);
        due("in a folder of nothing", trees("a{ };"), 1);
        due("in a volume of nothing", trees("\n;"), 1);
    }

    private static void nothingElseIsBlank() {
        sentence("Blanks (10, 32)");
        x = new NameKeeper();
        for (char octet : new char[] {0, 9, 11, 12, 13, 31, 33, 160}) {
            faulty("a" + octet + "b;", 1, 1);
            faulty(octet + "a;", 1, 0);
            faulty("a;" + octet, 1, 2);
        }
    }

    private static void namesNeedABlank() {
        sentence("(NAMES side by side need one)");
        x = new NameKeeper();
        trees("ab;");
        due("one name", x.has(1), 2);
        trees("a b;");
        due("two by 32", x.has(1), 3);
        trees("a\nb;");
        due("two by 10", x.has(1), 3);
        trees("a{}b{c}d;");
        due("none is needed at a brace", x.has(1), 5);
        due("4 and 1 letters side by side are none", trees("abcda;"), NONE);
        due("with one they are", trees("abcd a;"), 1);
    }

    private static void faultsTheFirstAlong() {
        sentence("FAULTS, the first along the text");
        x = new NameKeeper();
        faulty("a a abcde;", 3, 2);
        faulty("abcde a a;", 1, 4);
        faulty("a a" + times(9, "{b"), 3, 2);
        faulty(times(9, "a{") + "b b", 5, 17);
        faulty("a } a", 1, 2);
        faulty(names(39) + " a a;", 5, names(39).length() + 1);
        faulty("a a " + names(40) + ";", 3, 2);
        faulty("a a;;;;", 3, 2);
        faulty(";;;; a a;", 5, 3);
    }

    private static void faultAtTheFirstByte() {
        sentence("1 the first byte with which no such text goes on");
        x = new NameKeeper();
        faulty("}", 1, 0);
        faulty("a}", 1, 1);
        faulty("a;}", 1, 2);
        faulty("{", 1, 0);
        faulty("a{{", 1, 2);
        faulty("a{}{", 1, 3);
        faulty("a{b}}", 1, 4);
        faulty("a{;", 1, 2);
        faulty("a{b;", 1, 3);
        faulty("a{b{};", 1, 5);
        faulty(".;", 1, 0);
        faulty("a/b;", 1, 1);
        faulty("a \n 1;", 1, 4);
    }

    private static void faultAtTheFifthLetter() {
        sentence("(a NAME's 5th letter at itself");
        x = new NameKeeper();
        faulty("abcde;", 1, 4);
        faulty("abcdefgh;", 1, 4);
        faulty("abcd{abcde};", 1, 9);
        faulty(" \nabcde", 1, 6);
        due("4 letters, a blank, a letter", trees("abcd e;"), 1);
    }

    private static void faultAtTheLength() {
        sentence("at the text's length, if it ends too soon)");
        x = new NameKeeper();
        faulty("a", 1, 1);
        faulty("abcd", 1, 4);
        faulty("a \n", 1, 3);
        faulty("a{", 1, 2);
        faulty("a{b", 1, 3);
        faulty("a{b}", 1, 4);
        faulty("a;b", 1, 3);
        faulty("a;b{} ", 1, 6);
        faulty("a{b " + times(396, " "), 1, 400);
        due("not too soon", trees("a;" + times(398, " ")), 1);
    }

    private static void faultAtTheNameThatIsThere() {
        sentence("3 a NAME that the folder has already, at it");
        x = new NameKeeper();
        faulty("a a;", 3, 2);
        faulty("abcd  abcd;", 3, 6);
        faulty("a{}\na{", 3, 4);
        faulty("a{b c{d} b", 3, 9);
        faulty(";q q", 3, 3);
        faulty("a{a}a", 3, 4);
    }

    private static void faultAtTheNodeTooMany() {
        sentence("5 one too many: a 41st NODE .. at its first byte");
        x = new NameKeeper();
        String forty = names(39) + " ";
        faulty(forty + "zzzz;", 5, forty.length());
        faulty(forty + "  z{};", 5, forty.length() + 2);
        // it is one too many, whatever its NAME is
        faulty(forty + "a;", 5, forty.length());
        faulty(forty + "zzzzz;", 5, forty.length());
        due("FAULT 1 at the 40th that is none", trees(forty + "1;"), NONE);
        due("FAULT 1", x.fault(0), 1);
    }

    private static void faultAtTheBraceTooMany() {
        sentence("5 one too many: .. a brace that opens a 9th time, at its first byte");
        x = new NameKeeper();
        faulty(times(9, "a{"), 5, 17);
        faulty(times(8, "a{") + "a \n {", 5, 20);
        faulty(times(8, "a{") + "b c{", 5, 19);
        faulty(times(8, "a{") + "}b{c{", 5, 20);
        faulty(times(8, "a{") + "{", 1, 16);
        due("closed and opened again", trees(times(8, "a{") + "}b{" + times(8, "}") + ";"), 1);
    }

    private static void faultAtTheFourthVolume() {
        sentence("a 4th VOLUME (whatever stands there, if anything does) at its first byte");
        x = new NameKeeper();
        for (char octet : new char[] {';', 'a', '}', '{', '1', 9, 0, 255}) {
            faulty(";;;" + octet, 5, 3);
            faulty("a;b;c; \n " + octet, 5, 9);
        }
        due("nothing stands there", trees(";;;"), 3);
        due("blanks are nothing", trees(";;; \n \n"), 3);
        faulty(";;" + (char) 255, 1, 2);
        faulty(";;}", 1, 2);
    }

    private static void fourthVolumeAheadOfOthers() {
        sentence("a 4th VOLUME .. (this ahead of others)");
        x = new NameKeeper();
        faulty(";;;}", 5, 3);
        faulty(names(37) + ";;;}", 5, names(37).length() + 3);
        faulty(";;;abcde", 5, 3);
        faulty(";;;a", 5, 3);
    }

    private static void pathIsASlashAlone() {
        sentence("A PATH is a text: / alone, or so often / and a STEP");
        fresh(USUAL);
        due("/", where("/"), 0);
        due("nothing", where(""), NONE);
        due("//", where("//"), NONE);
        due("/a/", where("/a/"), NONE);
        due("/a//b", where("/a//b"), NONE);
        due("a", where("a"), NONE);
        due("a/b", where("a/b"), NONE);
        due("./a", where("./a"), NONE);
        due("/a/b", where("/a/b"), 2);
    }

    private static void pathOfTwelveSteps() {
        sentence("/ and a STEP, 12 at most");
        fresh(USUAL);
        due("12 dots", where(times(12, "/.")), 0);
        due("13 dots", where(times(13, "/.")), NONE);
        due("12 up", where(times(12, "/..")), 0);
        due("13 up", where(times(13, "/..")), NONE);
        due("12 names", where(times(12, "/abcd")), NOTHING);
        due("13 names", where(times(13, "/abcd")), NONE);
        due("12 of both", where(times(5, "/a/..") + "/a/b"), 2);
        due("13 of both", where(times(5, "/a/..") + "/a/b/."), NONE);
        due("400 bytes", where(times(200, "/a")), NONE);
    }

    private static void stepIsANameOrDots() {
        sentence("STEP: a NAME, . or ..");
        fresh("a abcd;");
        due("1 letter", where("/a"), 1);
        due("4 letters", where("/abcd"), 2);
        due("5 letters", where("/abcde"), NONE);
        due("5 letters behind others", where("/a/abcde"), NONE);
        due("one dot", where("/."), 0);
        due("two dots", where("/.."), 0);
        due("three dots", where("/..."), NONE);
        due("four dots", where("/...."), NONE);
        due("a dot and a letter", where("/.a"), NONE);
        due("a letter and a dot", where("/a."), NONE);
        due("two dots and a letter", where("/..a"), NONE);
        due("two dots and a step", where("/../a"), 1);
    }

    private static void pathHasNothingElse() {
        sentence("(nothing else, no blanks)");
        fresh("a z;");
        due("z", where("/z"), 2);
        for (char octet : new char[] {' ', '\n', 0, '`', '{', 'A', '1', '-', (char) 225, (char) 255}) {
            due("in place of a step: " + (int) octet, where("/" + octet), NONE);
            due("behind it: " + (int) octet, where("/a" + octet), NONE);
            due("ahead of it: " + (int) octet, where(octet + "/a"), NONE);
            due("in it: " + (int) octet, where("/" + octet + "a"), NONE);
            due("behind a slash: " + (int) octet, where("/a/" + octet), NONE);
        }
    }

    private static void pathsHaveOneBlankBetween() {
        sentence("PATHS side by side have one blank (32) between");
        fresh(USUAL);
        due("one", trace("/a /b"), 2);
        due("none", trace("/a/b"), 1);
        due("two", trace("/a  /b"), NONE);
        due("a 10", trace("/a\n/b"), NONE);
        due("32 and 10", trace("/a \n/b"), NONE);
        due("ahead", trace(" /a"), NONE);
        due("behind", trace("/a "), NONE);
        due("alone", trace(" "), NONE);
        due("slashes alone", trace("/ /"), 2);
        due("to rename", rename("/e  /f"), NONE);
        due("to rename by one", rename("/e /f"), 1);
    }
}
