/** Each sentence of Terms 1 and of promises 2 to 6 that names a boundary case, with tests of its own. */
public final class SourceBoundsTest {
    private static final int NONE = ShareEight.NONE;
    private static final int MIN = Integer.MIN_VALUE;
    private static final int MAX = Integer.MAX_VALUE;
    private static final Check CHECK = new Check("SourceBoundsTest");
    private static final String NAMES_200 = names(200);

    public static void main(String[] args) {
        feeding();
        ending();
        assembling();
        faultsAsked();
        madeAsked();
        bytesAlone();
        bytesQuoted();
        bytesOfTexts();
        remarks();
        emptyStatements();
        longestTokens();
        lengthOfNames();
        lengthOfNumbers();
        greatestNumbers();
        labels();
        values();
        literalSigns();
        radixes();
        places();
        pages();
        zeroBlocks();
        lastsOfTexts();
        dollar();
        addresses();
        farAddresses();
        addressesAlone();
        anotherValue();
        otherWords();
        literalPlaces();
        literalsOnce();
        namesToldAhead();
        twoPasses();
        noTokens();
        misplaced();
        untold();
        toldTwice();
        reserved();
        full();
        fullPages();
        manyNames();
        pagesNotThere();
        noRoom();
        wordsOnLiterals();
        aheadAndBehind();
        CHECK.finish();
    }

    private static ShareEight fresh() {
        return new ShareEight(1, 1, 1, 1);
    }

    private static int pair(int high, int low) {
        return (high & 077) << 6 | low & 077;
    }

    /** So many names, told by turns with , and =. */
    private static String names(int count) {
        StringBuilder text = new StringBuilder();
        for (int i = 0; i < count; i++) {
            text.append((char) ('A' + i / 10)).append((char) ('0' + i % 10)).append(i % 2 == 0 ? "," : "=1;");
        }
        return text.toString();
    }

    private static void feeding() {
        CHECK.says("Twenty bytes come behind those on the tape, of each number the highest first: how many there are");
        ShareEight x = fresh();
        CHECK.due("feed", x.feed(0x54455854, 0x202f4142, 0x43444546, 0x4748494a, 0x4b4c4d2f), 20);
        CHECK.due("feed", x.feed(0x0a373737, 0x37202020, 0x20202020, 0x20202020, 0x20202035), 40);
        CHECK.due("words", x.assemble(), 8);
        int[] words = {0102, 0304, 0506, 0710, 01112, 01314, 01500, 07777};
        for (int i = 0; i < words.length; i++) {
            CHECK.due("word " + i, x.made(0200 + i), words[i]);
        }
        for (int place = 0; place < 20; place++) {
            int[] numbers = {0x20202020, 0x20202020, 0x20202020, 0x20202020, 0x20202020};
            numbers[place / 4] |= 0xff << 24 - place % 4 * 8;
            x.feed(numbers[0], numbers[1], numbers[2], numbers[3], numbers[4]);
            CHECK.due("a byte 255", x.assemble(), NONE);
            CHECK.due("its place", x.fault(1), place);
        }
        CHECK.says("NONE, doing nothing, when there would be more than 2,000.");
        x = fresh();
        for (int i = 1; i < 100; i++) {
            CHECK.due("feed", x.feed(0x3b3b3b3b, 0x3b3b3b3b, 0x3b3b3b3b, 0x3b3b3b3b, 0x3b3b3b3b), 20 * i);
        }
        CHECK.due("up to 2000", x.feed(0x3b3b3b3b, 0x3b3b3b3b, 0x3b3b3b3b, 0x3b3b3b3b, 0x3b3b3b35), 2000);
        CHECK.due("beyond", x.feed(0x23232323, 0x23232323, 0x23232323, 0x23232323, 0x23232323), NONE);
        CHECK.look(x, 11, 2000);
        CHECK.due("all 2000 bytes are a source, none else", x.assemble(), 1);
        CHECK.due("no fault", x.fault(0), 0);
        for (int n = 2000; n > 1980; n--) {
            x = fresh();
            Check.feed(x, " ".repeat(n));
            CHECK.due("feed behind " + n, x.feed(0, 0, 0, 0, 0), NONE);
            CHECK.look(x, 11, n);
        }
        x.end(1980);
        CHECK.due("feed behind 1980", x.feed(0, 0, 0, 0, 0), 2000);
    }

    private static void ending() {
        CHECK.says("The tape has its first n bytes alone: true");
        ShareEight x = fresh();
        Check.feed(x, "1;2;3;4");
        CHECK.due("end(7) of 7", x.end(7), true);
        CHECK.look(x, 11, 7);
        CHECK.due("end(3) of 7", x.end(3), true);
        CHECK.look(x, 11, 3);
        Check.feed(x, "5");
        CHECK.due("words", x.assemble(), 2);
        CHECK.due("behind those that are left", x.made(0201), 025);
        Check.feed(x, "1");
        CHECK.due("end(0) of 1", x.end(0), true);
        CHECK.look(x, 11, 0);
        CHECK.due("end(0) of 0", x.end(0), true);
        CHECK.says("false when it has not so many, or n is below 0.");
        CHECK.due("end(1) of 0", x.end(1), false);
        Check.feed(x, "1;2;3;4");
        CHECK.due("end(8) of 7", x.end(8), false);
        CHECK.due("end(max)", x.end(MAX), false);
        CHECK.due("end(-1)", x.end(-1), false);
        CHECK.due("end(min)", x.end(MIN), false);
        CHECK.look(x, 11, 7);
        x.end(5);
        CHECK.due("end(7) of 5: what went is gone", x.end(7), false);
        CHECK.due("words", x.assemble(), 3);
    }

    private static void assembling() {
        CHECK.says("The tape, which is empty then, is a SOURCE");
        ShareEight x = fresh();
        CHECK.due("of an empty tape", x.assemble(), 0);
        CHECK.due("its fault", x.fault(0), 0);
        Check.assemble(x, "5");
        CHECK.look(x, 11, 0);
        Check.assemble(x, ")");
        CHECK.look(x, 11, 0);
        CHECK.due("empty behind a fault too", x.assemble(), 0);
        CHECK.says("how many words are made (in place of those before; places that have one)");
        CHECK.due("two", Check.assemble(x, "1;2"), 2);
        CHECK.due("one", Check.assemble(x, "*201;0"), 1);
        CHECK.due("in place of those before", x.made(0200), NONE);
        CHECK.due("0 is a word", x.made(0201), 0);
        CHECK.due("a place counts once", Check.assemble(x, "1;*200;2;*200;ZBLOCK 1"), 1);
        CHECK.due("a literal counts once", Check.assemble(x, "(1;(1;[1;[1;400"), 7);
        CHECK.due("all places", Check.assemble(x, "*0;ZBLOCK 7777;5"), 4096);
        CHECK.due("none", Check.assemble(x, "*0;A,ZBLOCK 0;B=5"), 0);
        CHECK.due("all are gone", x.made(0), NONE);
        CHECK.due("names of before are not told", Check.assemble(x, "A,B,5"), 1);
        CHECK.due("nor is the PLACE of before", x.made(0200), 5);
        CHECK.says("NONE with a FAULT (those before stay).");
        CHECK.due("a fault in the first pass", Check.assemble(x, "*300;7;*200;6;)"), NONE);
        CHECK.due("word stays", x.made(0200), 5);
        CHECK.due("no new one", x.made(0300), NONE);
        CHECK.due("a fault in the second pass", Check.assemble(x, "*300;7;*200;6;C"), NONE);
        CHECK.due("word stays", x.made(0200), 5);
        CHECK.due("no new one", x.made(0300), NONE);
        x.mount(0);
        CHECK.due("they are mounted", x.word(0, 0200), 5);
    }

    private static void faultsAsked() {
        CHECK.says("its FAULT (what 0; 0 without one, or before any), its place (1; NONE without).");
        ShareEight x = fresh();
        CHECK.due("fault(0) before any", x.fault(0), 0);
        CHECK.due("fault(1) before any", x.fault(1), NONE);
        Check.assemble(x, ")");
        CHECK.due("fault(0)", x.fault(0), 2);
        CHECK.due("fault(1)", x.fault(1), 0);
        Check.feed(x, "5");
        x.end(1);
        CHECK.due("of the latest assemble() still", x.fault(0), 2);
        x.assemble();
        CHECK.due("fault(0) without", x.fault(0), 0);
        CHECK.due("fault(1) without", x.fault(1), NONE);
        CHECK.says("NONE for another what.");
        Check.assemble(x, "1;)");
        int[] others = {MIN, -1, 2, 3, MAX};
        for (int what : others) {
            CHECK.due("fault(" + what + ")", x.fault(what), NONE);
        }
    }

    private static void madeAsked() {
        CHECK.says("The word made for a place; NONE without.");
        ShareEight x = fresh();
        for (int place = 0; place < 4096; place += 315) {
            CHECK.due("made(" + place + ") at first", x.made(place), NONE);
        }
        Check.assemble(x, "*0;5;*7777;0");
        CHECK.due("made(0)", x.made(0), 5);
        CHECK.due("made(1)", x.made(1), NONE);
        CHECK.due("made(4094)", x.made(4094), NONE);
        CHECK.due("made(4095)", x.made(4095), 0);
        int[] outside = {MIN, -4096, -1, 4096, 8191, MAX};
        for (int place : outside) {
            CHECK.due("made(" + place + ")", x.made(place), NONE);
        }
    }

    private static void bytesAlone() {
        CHECK.says("at most 2,000 bytes: 10, 32 .. 126.");
        String ends = "\n /;$";
        String words = "01234567.IZ";
        String begin = "*-([";
        String signs = ",=+!&)]";
        for (char c = 0; c < 256; c++) {
            String source = "5;" + c;
            if (ends.indexOf(c) >= 0) {
                CHECK.words(source, 1);
            } else if (words.indexOf(c) >= 0) {
                CHECK.words(source, 2);
            } else if (begin.indexOf(c) >= 0) {
                CHECK.fault(source, 2, 3);
            } else if (signs.indexOf(c) >= 0) {
                CHECK.fault(source, 2, 2);
            } else {
                CHECK.fault(source, c >= 'A' && c <= 'Z' ? 3 : 1, 2);
            }
        }
        String long2000 = "/".repeat(1998) + "\n5";
        CHECK.words(long2000, 1);
        CHECK.fault(" ".repeat(1999) + "#", 1, 1999);
        CHECK.fault(" ".repeat(1999) + "*", 2, 2000);
    }

    private static void bytesQuoted() {
        CHECK.says("\" and the byte behind it (32 .. 126), which is its code and 128");
        for (char c = 0; c < 256; c++) {
            String source = "\"" + c + ";5";
            if (c >= 32 && c <= 126) {
                CHECK.made(source, 0200, c + 128, 5, NONE);
            } else {
                CHECK.fault(source, 1, 0);
            }
        }
        CHECK.faultAt("5;`\"", 1);
        CHECK.made("\"\"\"A", 0200, 0242 | 0301, NONE);
        CHECK.made("\"A5;\"9;\"/ 5 /6", 0200, 0305, 0271, 0257, NONE);
    }

    private static void bytesOfTexts() {
        CHECK.says("(In TEXT all bytes count.)");
        for (char c = 32; c <= 126; c++) {
            char d = c == '/' ? '#' : '/';
            CHECK.made("TEXT " + d + c + "x" + d + ";5", 0200, pair(c, 'x'), 0, 5, NONE);
        }
        CHECK.made("TEXT ' ;$/\"\"';5", 0200, pair(' ', ';'), pair('$', '/'), pair('"', '"'), 0, 5, NONE);
        CHECK.says("d: the first byte behind TEXT that is no blank; it ends at the next one in the line.");
        for (char d = 33; d <= 126; d++) {
            if (d != ',' && d != '=') {
                CHECK.made("TEXT   " + d + "  " + d + ";5", 0200, pair(' ', ' '), 0, 5, NONE);
            }
        }
        CHECK.made("TEXT/A/", 0200, pair('A', 0), NONE);
        CHECK.made("TEXT $A$;5", 0200, pair('A', 0), 5, NONE);
        CHECK.made("TEXT \"A\" /B\n5", 0200, pair('A', 0), 5, NONE);
        CHECK.says("TEXT without d, without its end in the line, or with another byte than 32 .. 126 in it: at TEXT");
        CHECK.faultAt("5;`TEXT", 1);
        CHECK.faultAt("5;`TEXT   ", 1);
        CHECK.faultAt("A, `TEXT  \n/B/", 1);
        CHECK.faultAt("5;`TEXT /", 1);
        CHECK.faultAt("5;`TEXT /AB", 1);
        CHECK.faultAt("5;`TEXT /AB\n/", 1);
        for (char c = 0; c < 256; c++) {
            if (c < 32 || c > 126) {
                CHECK.fault("5;TEXT /A" + c + "/", 1, 2);
                CHECK.fault("5;TEXT " + c + "A" + c, 1, 2);
            }
        }
    }

    private static void remarks() {
        CHECK.says("LINES end by 10; what is behind a / goes, up to the line's end.");
        for (char c = 0; c < 256; c++) {
            CHECK.made("5/" + c + "\n6", 0200, 5, 6, NONE);
        }
        CHECK.words("/", 0);
        CHECK.words("//5;6)", 0);
        CHECK.made("5 /;6\n/\n7 /", 0200, 5, 7, NONE);
        CHECK.faultAt("5+/1`\n1", 2);
    }

    private static void emptyStatements() {
        CHECK.says("A line has STATEMENTS, a ; between (some may be empty).");
        CHECK.words("", 0);
        CHECK.words(";", 0);
        CHECK.words("\n", 0);
        CHECK.words(" ;; ;\n\n;\n ", 0);
        CHECK.made(";5;;6;\n;7", 0200, 5, 6, 7, NONE);
        CHECK.made("A,;B,;\nA;B;", 0200, 0200, 0200, NONE);
    }

    private static void longestTokens() {
        CHECK.says("TOKENS, as long as can be, blanks between");
        CHECK.faultAt("`TADI 5", 3);
        CHECK.faultAt("A=1;B=2;`AB", 3);
        CHECK.made("A=1;B=2;A B;  A   B  ;12;1 2;1+ 2;1 +2", 0200, 3, 3, 012, 3, 3, 3, NONE);
        CHECK.made("A=1;\" A;\"AA;1A;A.;..;(5)", 0200, 0241, 0301, 1, 0203, 0204, 0377, NONE);
        CHECK.made("A,B,C=5;A B C;TEXTA=7;TEXTA", 0200, 0205, 7, NONE);
        CHECK.says("WORDS are 0 .. 4095, all goes round by 4096.");
        CHECK.made("7777+1;0-1;A=7777+2;A;*7777+3;-A", 0200, 0, 07777, 1, NONE);
        CHECK.made("7777+1;0-1;A=7777+2;A;*7777+3;-A", 2, 07777, NONE);
    }

    private static void lengthOfNames() {
        CHECK.says("NAMES: a letter A .. Z, then letters and digits, seven at most (more is no token)");
        CHECK.made("A=1;A234567=2;ABCDEFG=4;ABCDEFH=10;A A234567;ABCDEFG;ABCDEFH", 0200, 3, 4, 010, NONE);
        CHECK.faultAt("5;`ABCDEFGH", 1);
        CHECK.faultAt("5;`A2345678=1", 1);
        CHECK.faultAt("A=1;`ABCDEFGHIJKLMNOPQRST,5", 1);
        CHECK.faultAt("5;`TADTADTAD 5", 1);
        CHECK.faultAt("5 `TEXTTEXT /A/", 1);
        CHECK.faultAt("A=1;A`a", 1);
        CHECK.faultAt("ABCDEFG=1;ABCDEFG`_", 1);
    }

    private static void lengthOfNumbers() {
        CHECK.says("NUMBERS: digits, four at most (behind a letter none begins)");
        CHECK.made("0;7;0007;7777", 0200, 0, 7, 7, 07777);
        CHECK.faultAt("5;`77777", 1);
        CHECK.faultAt("5;`00000", 1);
        CHECK.faultAt("5;`000000001", 1);
        CHECK.faultAt("DECIMAL;`00001", 1);
        CHECK.faultAt("A=4;`A1", 3);
        CHECK.made("A=4;A1=2;A1;A 1;1A", 0200, 2, 5, 5);
        CHECK.faultAt("`TAD5", 3);
    }

    private static void greatestNumbers() {
        CHECK.says("a digit 8, 9 in an octal NUMBER, one above 4095, too");
        CHECK.faultAt("5;`8", 1);
        CHECK.faultAt("5;`9", 1);
        CHECK.faultAt("5;`7778", 1);
        CHECK.faultAt("5;`1900", 1);
        CHECK.faultAt("A=`8", 1);
        CHECK.faultAt("TAD (`9", 1);
        CHECK.faultAt("*`8", 1);
        CHECK.faultAt("5+`08", 1);
        CHECK.made("DECIMAL;4095;8;99;0", 0200, 4095, 8, 99, 0, NONE);
        CHECK.faultAt("DECIMAL;4095;`4096", 1);
        CHECK.faultAt("DECIMAL;`9999", 1);
        CHECK.faultAt("DECIMAL;9;OCTAL;7;`8", 1);
    }

    private static void labels() {
        CHECK.says("{NAME ,} [ * V | NAME = V | PAGE [V] | DECIMAL | OCTAL | ZBLOCK V | TEXT d {bytes} d | $ | WORD ]");
        CHECK.made("A,B , C,5;A;B;C", 0200, 5, 0200, 0200, 0200, NONE);
        CHECK.made("A,*300;B,C=5;D,PAGE;E,DECIMAL;F,OCTAL;G,TEXT /A/;A;B;C;D;E;F;G", 0400, 0100, 0200, 0300, 5, 0300, 0400, 0400, 0400, NONE);
        CHECK.made("A,ZBLOCK 2;B,;A;B;C,$", 0200, 0, 0, 0200, 0202, NONE);
        CHECK.says("(PAGE to TEXT stand there alone.");
        CHECK.faultAt("PAGE `PAGE", 2);
        CHECK.faultAt("PAGE 1 `2", 2);
        CHECK.faultAt("DECIMAL `5", 2);
        CHECK.faultAt("DECIMAL `9", 2);
        CHECK.faultAt("OCTAL `TAD", 2);
        CHECK.faultAt("DECIMAL;OCTAL `9", 1);
        CHECK.faultAt("ZBLOCK 1 `2", 2);
        CHECK.faultAt("TEXT /A/ `5", 2);
        CHECK.faultAt("TEXT /A/`TEXT /A/", 2);
        CHECK.faultAt("5 `PAGE", 2);
        CHECK.faultAt("5 `DECIMAL", 2);
        CHECK.faultAt("5 `OCTAL", 2);
        CHECK.faultAt("5 `ZBLOCK 1", 2);
        CHECK.faultAt("5 `TEXT /A/", 2);
        CHECK.faultAt("A=`PAGE", 2);
        CHECK.faultAt("5+`ZBLOCK", 2);
        CHECK.faultAt("(`TEXT /A/", 2);
        CHECK.faultAt("TAD I `OCTAL", 2);
    }

    private static void values() {
        CHECK.says("V: P {(+ | - | ! | &) P}, from the left: sum, difference, or, and.");
        CHECK.made("7777+1;7777+7777;0-1;0-7777;5252!2525;5252&2525", 0200, 0, 07776, 07777, 1, 07777, 0, NONE);
        CHECK.made("1+2&1;1!2+2;7-1&2;2&3+1", 0200, 1, 5, 2, 3, NONE);
        CHECK.made("7!5;7777!1;7&0;7777&1", 0200, 7, 07777, 0, 1, NONE);
        CHECK.says("- being 0 less it; . is the PLACE.");
        CHECK.made("-1;-0;-7777;1--1;1+-1;-.;.-.;-\"A", 0200, 07777, 0, 1, 2, 0, 07573, 0, 07477, NONE);
        CHECK.made("*0;.;-.;*7777;.", 0, 0, 07777, NONE);
        CHECK.made("*7777;.", 07777, 07777);
        CHECK.faultAt("-`-1", 2);
        CHECK.faultAt("1--`-1", 2);
        CHECK.faultAt("-`+1", 2);
        CHECK.faultAt("1+`+1", 2);
        CHECK.faultAt("-`(1", 2);
        CHECK.says("(A - behind a P goes on with its V.)");
        CHECK.made("5 -1;5 - 1;TAD -1;CLA -CLA;(5 -1", 0200, 4, 4, 0777, 0, 0377, NONE);
        CHECK.made("5 -1;5 - 1;TAD -1;CLA -CLA;(5 -1", 0377, 4);
        CHECK.made("TAD I -1;TAD I", 0200, 01377, 01400, NONE);
    }

    private static void literalSigns() {
        CHECK.says("in place of the last (or only) one perhaps a LITERAL: ( V, behind it perhaps a ) ; or [ V, perhaps ].");
        CHECK.made("(1;(1);[1;[1];CLA (1;1 2 [1]", 0200, 0377, 0377, 0177, 0177, 07377, 0177 | 3, NONE);
        CHECK.faultAt("(1`]", 2);
        CHECK.faultAt("[1`)", 2);
        CHECK.faultAt("(1)`)", 2);
        CHECK.faultAt("(1) `2", 2);
        CHECK.faultAt("(1 `2", 2);
        CHECK.faultAt("(1 `(2", 2);
        CHECK.faultAt("5 (1) `[2", 2);
        CHECK.faultAt("(`)", 2);
        CHECK.faultAt("(`", 2);
        CHECK.faultAt("[`\n", 2);
        CHECK.faultAt("(`[1", 2);
        CHECK.faultAt("(1)`+1", 2);
        CHECK.faultAt("1+`(1", 2);
        CHECK.faultAt("A=`(1", 2);
        CHECK.faultAt("*`[1", 2);
        CHECK.faultAt("ZBLOCK `(1", 2);
        CHECK.faultAt("PAGE `(1", 2);
    }

    private static void radixes() {
        CHECK.says("NUMBERS are octal at first and behind OCTAL, decimal behind DECIMAL.");
        CHECK.made("10;DECIMAL;10\n10;OCTAL;10;DECIMAL", 0200, 8, 10, 10, 8, NONE);
        ShareEight x = fresh();
        Check.assemble(x, "DECIMAL");
        Check.assemble(x, "10");
        CHECK.due("octal at first, in each source", x.made(0200), 8);
        CHECK.made("DECIMAL;*10;(10;PAGE 1;ZBLOCK 10;1", 138, 1);
        CHECK.made("DECIMAL;*10;(10;PAGE 1;ZBLOCK 10;1", 127, 10);
    }

    private static void places() {
        CHECK.says("The PLACE is 0200 at first.");
        CHECK.made("5", 0177, NONE, 5, NONE);
        CHECK.says("NAME , tells NAME as the PLACE. * V: it is V.");
        CHECK.made("*7777;5;A,*0;A", 0, 0, NONE);
        CHECK.made("*7777;A,5;*0;A", 0, 07777, NONE);
        CHECK.made("*-1;5", 07777, 5);
        CHECK.made("*7777+1;5", 0, 5, NONE);
        CHECK.made("*.+1;5", 0200, NONE, 5);
        CHECK.says("A WORD lies at the PLACE, which is 1 more then.");
        CHECK.made("*7776;1;2", 07776, 1, 2);
        CHECK.made("*7777;1;A=.;*0;A+5", 0, 5, NONE);
    }

    private static void pages() {
        CHECK.says("PAGE V: 128 V (below 32)");
        for (int page = 0; page < 32; page++) {
            CHECK.made("PAGE " + Integer.toOctalString(page) + ";5", page * 128, 5, NONE);
        }
        CHECK.says("PAGE: the next one that is a multiple of 128 (itself, if it is).");
        CHECK.made("PAGE;5", 0200, 5, NONE);
        CHECK.made("*0;PAGE;5", 0, 5, NONE);
        CHECK.made("*1;PAGE;5", 0200, 5, NONE);
        CHECK.made("*177;PAGE;5", 0200, 5, NONE);
        CHECK.made("*201;PAGE;PAGE;5", 0400, 5, NONE);
        CHECK.made("*7600;PAGE;5", 07600, 5, NONE);
        CHECK.made("*7577;PAGE;5", 07600, 5, NONE);
        CHECK.made("*7601;PAGE;A,*0;A;5", 0, 0, 5, NONE);
        CHECK.made("*7777;1;PAGE;A,*0;A;5", 0, 0, 5, NONE);
        CHECK.faultAt("*7601;PAGE;`5", 6);
        CHECK.faultAt("*7777;PAGE;`5", 6);
    }

    private static void zeroBlocks() {
        CHECK.says("ZBLOCK V: V words 0.");
        CHECK.made("ZBLOCK 0;5", 0200, 5, NONE);
        CHECK.made("ZBLOCK 1;5", 0200, 0, 5, NONE);
        CHECK.made("*210;1;*200;ZBLOCK 11;5", 0207, 0, 0, 5, NONE);
        CHECK.words("*0;ZBLOCK 7777", 4095);
        CHECK.words("*1;ZBLOCK -1", 4095);
        CHECK.words("*7777;ZBLOCK 1;ZBLOCK 0", 1);
    }

    private static void lastsOfTexts() {
        CHECK.says("TEXT: bytes by twos, the lowest six bits of each, the first one high, at last two or one of 0.");
        CHECK.made("TEXT //;5", 0200, 0, 5, NONE);
        CHECK.made("TEXT /A/;5", 0200, 0100, 5, NONE);
        CHECK.made("TEXT /AB/;5", 0200, 0102, 0, 5, NONE);
        CHECK.made("TEXT /ABC/;5", 0200, 0102, 0300, 5, NONE);
        CHECK.made("TEXT /@~ a/;5", 0200, 076, 04041, 0, 5, NONE);
        CHECK.words("TEXT /" + "A".repeat(1993) + "/", 997);
        CHECK.words("TEXT /" + "A".repeat(1992) + "/", 997);
    }

    private static void dollar() {
        CHECK.says("$ ends all (what is behind is not looked at).");
        CHECK.words("$", 0);
        CHECK.made("5;$6", 0200, 5, NONE);
        CHECK.made("A,A;B,$ ) \u0001 # C,C, TEXT\n;5", 0200, 0200, NONE);
        CHECK.made("5\n$\n6;)", 0200, 5, NONE);
        CHECK.made("\"$;TEXT /$/;/$\n5", 0200, 0244, pair('$', 0), 5, NONE);
        CHECK.faultAt("5 `$", 2);
        CHECK.faultAt("A=`$", 2);
        CHECK.faultAt("PAGE `$", 2);
        CHECK.faultAt("B;*`$", 2);
        CHECK.faultAt("`B;$)", 3);
    }

    private static void addresses() {
        CHECK.says("one below 0200: the address; in the PLACE's own page (of 128 words) that, 0200, and the address's lowest seven bits");
        CHECK.made("TAD 0;TAD 177;TAD 200;TAD 377;TAD I 377", 0200, 01000, 01177, 01200, 01377, 01777, NONE);
        CHECK.made("*0;TAD 0;TAD 177;TAD I 177", 0, 01000, 01177, 01577, NONE);
        CHECK.made("*7777;JMP 7600", 07777, 05200);
        CHECK.made("*7600;JMP 7777;JMP I 7777;JMP 177", 07600, 05377, 05777, 05177, NONE);
        CHECK.made("*377;TAD 200;TAD 400", 0377, 01200, 01200, NONE);
        CHECK.made("AND 5;TAD 5;ISZ 5;DCA 5;JMS 5;JMP 5", 0200, 5, 01005, 02005, 03005, 04005, 05005, NONE);
    }

    private static void farAddresses() {
        CHECK.says("else, without I, as I and a LITERAL ( of the address; with I FAULT 7.");
        CHECK.made("TAD 400;TAD 7777;TAD (400", 0200, 01777, 01776, 01377, NONE);
        CHECK.made("TAD 400;TAD 7777;TAD (400", 0375, NONE, 07777, 0400, NONE);
        CHECK.made("*400;TAD 377", 0400, 01777, NONE);
        CHECK.made("*400;TAD 377", 0577, 0377, NONE);
        CHECK.made("*0;TAD 200", 0, 01577, NONE);
        CHECK.made("*0;TAD 200", 0177, 0200, NONE);
        CHECK.made("TAD Z 400", 0200, 01777, NONE);
        CHECK.faultAt("TAD I `400", 7);
        CHECK.faultAt("*400;TAD I `377", 7);
        CHECK.faultAt("*177;TAD I `200", 7);
        CHECK.faultAt("TAD I Z I `400", 7);
        CHECK.made("TAD I 177;TAD I [5;TAD I (5", 0200, 01577, 01577, 01777, NONE);
    }

    private static void addressesAlone() {
        CHECK.says("With I, Z alone the address is 0.");
        CHECK.made("TAD I;TAD Z;TAD I Z;TAD Z I I;JMP I;AND I", 0200, 01400, 01000, 01400, 01400, 05400, 0400, NONE);
        CHECK.made("*400;TAD;TAD I", 0400, 01000, 01400, NONE);
        CHECK.says("behind it I (0400, also twice) and Z (nothing) alone");
        CHECK.made("TAD I I 5;TAD I I I 5;TAD Z Z 5;TAD Z I Z 5", 0200, 01405, 01405, 01005, 01405, NONE);
        CHECK.made("TAD I+5;TAD Z+5;TAD 5+I", 0200, 01777, 01005, 01777, NONE);
        CHECK.made("TAD I+5;TAD Z+5;TAD 5+I", 0377, 0405);
    }

    private static void anotherValue() {
        CHECK.says("(Another V behind which a V or LITERAL begins: FAULT 2 at it, told as soon as that is there; PAGE to TEXT begin none.)");
        CHECK.faultAt("TAD `5 6", 2);
        CHECK.faultAt("TAD `5 B", 2);
        CHECK.faultAt("TAD `B C", 2);
        CHECK.faultAt("TAD `5 I", 2);
        CHECK.faultAt("TAD `5 .", 2);
        CHECK.faultAt("TAD `5 \"A", 2);
        CHECK.faultAt("TAD `5 (", 2);
        CHECK.faultAt("TAD `5 [)", 2);
        CHECK.faultAt("TAD I `5-5+6 7", 2);
        CHECK.faultAt("TAD Z `I -5 7", 2);
        CHECK.faultAt("TAD `TAD 5", 2);
        CHECK.faultAt("TAD I `CLA I 5", 2);
        CHECK.faultAt("TAD `I+1 5", 2);
        CHECK.faultAt("TAD `5 6 )", 2);
        CHECK.faultAt("TAD 5 `PAGE", 2);
        CHECK.faultAt("TAD 5 `TEXT /A/", 2);
        CHECK.faultAt("TAD I `ZBLOCK 1", 2);
        CHECK.faultAt("TAD 5 `)", 2);
        CHECK.faultAt("TAD 5 `9", 1);
        CHECK.faultAt("TAD 5 `#", 1);
        CHECK.faultAt("TAD (5) `6", 2);
    }

    private static void otherWords() {
        CHECK.says("All other words: or'ed; a LITERAL counts as its address.");
        CHECK.made("1 2 4;TAD;AND;CLA TAD 5;TAD+0 400;X=TAD;X 400", 0200, 7, 01000, 0, 07205, 01400, 01400, NONE);
        CHECK.made("7777 7777;0 0;(0;7000 (1", 0200, 07777, 0, 0377, 07376, NONE);
        CHECK.made("*7600;(5;[5", 07600, 07777, 0177, NONE);
        CHECK.made("-TAD;-TAD 5", 0200, 07000, 07005, NONE);
    }

    private static void literalPlaces() {
        CHECK.says("LITERALS: ( in the PLACE's page, [ in page 0: from its last word downwards");
        CHECK.made("*7600;(1;(2;[1;[2", 07776, 2, 1);
        CHECK.made("*7600;(1;(2;[1;[2", 0176, 2, 1, NONE);
        CHECK.made("*376;(1;*400;(2", 0376, 0377, 1, 0577, NONE);
        CHECK.made("*376;(1;*400;(2", 0576, NONE, 2, NONE);
        StringBuilder all = new StringBuilder("*200");
        for (int i = 0; i < 64; i++) {
            all.append(";(").append(Integer.toOctalString(i));
        }
        CHECK.words(all.toString(), 128);
        CHECK.made(all.toString(), 0277, 0300, 077);
        CHECK.faultAt(all + ";`0", 8);
        CHECK.faultAt(all + ";*277;`(100", 8);
        CHECK.words(all + ";*277;(77", 128);
    }

    private static void literalsOnce() {
        CHECK.says("one for each value (of the words that are there as literals the first one, from the last word on, that has it).");
        CHECK.made("(1;(2;(1;(2;[2;[1;[2", 0200, 0377, 0376, 0377, 0376, 0177, 0176, 0177, NONE);
        CHECK.words("(1;(2;(1;(2;[2;[1;[2", 11);
        CHECK.made("*20;(5;[5", 020, 0177, 0177, NONE);
        CHECK.made("(0;(-0;(7777+1", 0200, 0377, 0377, 0377, NONE);
        CHECK.made("5;*300;5;(5", 0300, 5, 0377, NONE);
        CHECK.made("(5;*400;(5;*210;(5", 0210, 0377, NONE);
        CHECK.made("JMP 400;(400;JMP 400", 0200, 05777, 0377, 05777, NONE);
        CHECK.says("where a word lies that the text put there, in this or an earlier statement");
        CHECK.faultAt("*377;5;*200;`(5", 8);
        CHECK.faultAt("*377;`(5", 8);
        CHECK.faultAt("*377;`(377", 8);
        CHECK.faultAt("*177;TAD `[5", 8);
        CHECK.faultAt("*376;0;*200;(5;`(6", 8);
        CHECK.made("*376;0;*200;(5;(5", 0200, 0377, 0377, NONE);
        CHECK.faultAt("*377;ZBLOCK 1;*200;`(0", 8);
        CHECK.faultAt("*377;TEXT //;*200;`(0", 8);
    }

    private static void namesToldAhead() {
        CHECK.says("those of V in *, =, PAGE, ZBLOCK must be told ahead");
        CHECK.faultAt("*`A;A=1", 3);
        CHECK.faultAt("B=`A;A=1", 3);
        CHECK.faultAt("PAGE `A;A=1", 3);
        CHECK.faultAt("ZBLOCK `A;A=1", 3);
        CHECK.faultAt("A=`A", 3);
        CHECK.faultAt("A=1+`A", 3);
        CHECK.faultAt("*1+`A;A,", 3);
        CHECK.made("A=1;*A;5;B=A;PAGE B;ZBLOCK B;6", 0200, 0, 6, NONE);
        CHECK.made("A,*A+1;5", 0200, NONE, 5, NONE);
        CHECK.made("A;(A;JMP A;A,", 0200, 0203, 0377, 05203, NONE);
    }

    private static void twoPasses() {
        CHECK.says("FAULTS, the first one told, the first pass's first");
        CHECK.faultAt("A;B;`)", 2);
        CHECK.faultAt("A;C,`C,", 4);
        CHECK.faultAt("A;`TAD=5", 5);
        CHECK.faultAt("A;`#", 1);
        CHECK.faultAt("A;*`B", 3);
        CHECK.faultAt("JMP I 400;*7777;5;`5", 6);
        CHECK.faultAt("*377;(5;PAGE `40", 6);
        CHECK.faultAt("`A;JMP I 400;*377;(5", 3);
        CHECK.faultAt("JMP I `400;A;*377;(5", 7);
        CHECK.faultAt("*377;`(5;*200;A", 8);
        CHECK.faultAt("`);#", 2);
        CHECK.faultAt("`#;)", 1);
        CHECK.faultAt("JMP I `A;JMP I 400", 3);
        CHECK.says("= may tell anew.");
        CHECK.made("A=1;A;A=A+A;A;A=-A;A", 0200, 1, 2, 07776, NONE);
    }

    private static void noTokens() {
        CHECK.says("1 no token (at its first byte");
        CHECK.faultAt("`#", 1);
        CHECK.faultAt("5 `%6", 1);
        CHECK.faultAt("5+`a", 1);
        CHECK.faultAt("A,`\t5", 1);
        CHECK.faultAt("A=`?", 1);
        CHECK.faultAt("*`@", 1);
        CHECK.faultAt("PAGE `'", 1);
        CHECK.faultAt("ZBLOCK `<", 1);
        CHECK.faultAt("TEXT /A/`>", 1);
        CHECK.faultAt("DECIMAL`:", 1);
        CHECK.faultAt("TAD `\u007f", 1);
        CHECK.faultAt("TAD I `\u0080", 1);
        CHECK.faultAt("(`\u00ff", 1);
        CHECK.faultAt("(5`\r", 1);
        CHECK.faultAt("(5)`\u0000", 1);
        CHECK.faultAt("-`_", 1);
    }

    private static void misplaced() {
        CHECK.says("2 a token that can't stand there (its first byte; lines' ends, text's end and ; are such, too; remarks are none).");
        CHECK.faultAt("A=`", 2);
        CHECK.faultAt("A=  `", 2);
        CHECK.faultAt("A= `\n5", 2);
        CHECK.faultAt("A= `;5", 2);
        CHECK.faultAt("A= /remark`", 2);
        CHECK.faultAt("A= /remark`\n5", 2);
        CHECK.faultAt("*`", 2);
        CHECK.faultAt("*`\n", 2);
        CHECK.faultAt("ZBLOCK`;", 2);
        CHECK.faultAt("ZBLOCK/`", 2);
        CHECK.faultAt("5+`", 2);
        CHECK.faultAt("5-/5`\n5", 2);
        CHECK.faultAt("-`;", 2);
        CHECK.faultAt("TAD (`;", 2);
        CHECK.faultAt("`,5", 2);
        CHECK.faultAt("A,`,5", 2);
        CHECK.faultAt("A,5 B`,", 2);
        CHECK.faultAt("`=5", 2);
        CHECK.faultAt("A=1;B=A`=5", 2);
        CHECK.faultAt("5`,", 2);
        CHECK.faultAt("5 `*6", 2);
        CHECK.faultAt("A=5 `6", 2);
        CHECK.faultAt("*5 `6", 2);
        CHECK.faultAt("5 `)", 2);
        CHECK.faultAt("`]", 2);
        CHECK.faultAt("\"A`,5", 2);
    }

    private static void untold() {
        CHECK.says("3 a NAME that isn't told (at it).");
        CHECK.faultAt("5;`A", 3);
        CHECK.faultAt("B=1;B+`A", 3);
        CHECK.faultAt("5 `A", 3);
        CHECK.faultAt("TAD (`A)", 3);
        CHECK.faultAt("TAD I `A", 3);
        CHECK.faultAt("-`A", 3);
        CHECK.faultAt("`A5;A=1", 3);
        CHECK.faultAt("A=1;`AA", 3);
    }

    private static void toldTwice() {
        CHECK.says("4 a NAME told twice by , (or by , one that = told, or = one that , told: at it)");
        CHECK.faultAt("A,`A,5", 4);
        CHECK.faultAt("A,5;B,`A,5", 4);
        CHECK.faultAt("A=0;B,`A,5", 4);
        CHECK.faultAt("A,5;`A=0", 4);
        CHECK.faultAt("A,`A=A", 4);
        CHECK.faultAt("A=1;A=2;`A,", 4);
    }

    private static void reserved() {
        CHECK.says("5 a NAME of the list above, or PAGE to TEXT, told by , or =");
        String all = "AND TAD ISZ DCA JMS JMP I Z NOP CLA CLL CMA CML RAR RAL RTR RTL BSW IAC CIA STL SMA SZA SPA SNA SNL SZL SKP OSR HLT "
                + "MQL MQA SWP MUY DVI SHL ASR LSR KSF KCC KRS KRB TSF TLS SLEEP WHO RDB WRB PAGE DECIMAL OCTAL ZBLOCK TEXT";
        for (String name : all.split(" ")) {
            CHECK.faultAt("A,`" + name + ",5", 5);
            CHECK.faultAt("A,`" + name + " = 5", 5);
            if (name.length() < 7) {
                CHECK.made(name + "X=5;X" + name + ",0;" + name + "X;X" + name, 0200, 0, 5, 0200);
            }
        }
        CHECK.says("of NAME = V 4 to 6 at NAME ahead of what V has");
        CHECK.faultAt("A,`A=)", 4);
        CHECK.faultAt("A,`A=B", 4);
        CHECK.faultAt("A,`A=#", 4);
        CHECK.faultAt("`TAD=", 5);
        CHECK.faultAt("`TAD=B", 5);
        CHECK.faultAt("`PAGE=9", 5);
        CHECK.faultAt(NAMES_200 + "`X=)", 6);
        CHECK.faultAt(NAMES_200 + "`X=X", 6);
        CHECK.faultAt(NAMES_200 + "A1=`X", 3);
    }

    private static void full() {
        CHECK.says("6 FULL: the PLACE would be above 4096, or a word at 4096 (at the STATEMENT's first token behind its labels)");
        CHECK.words("*7777;5", 1);
        CHECK.faultAt("*7777;5;`5", 6);
        CHECK.faultAt("*7777;5;A, B,  `-5", 6);
        CHECK.faultAt("*7777;5;`TAD I 5", 6);
        CHECK.faultAt("*7777;5;`(5", 6);
        CHECK.faultAt("*7777;5;`.", 6);
        CHECK.faultAt("*7777;5;`\"A", 6);
        CHECK.words("*7777;ZBLOCK 1", 1);
        CHECK.faultAt("*7777;`ZBLOCK 2", 6);
        CHECK.faultAt("*7777;A,`ZBLOCK 7777", 6);
        CHECK.faultAt("*7777;5;`ZBLOCK 1", 6);
        CHECK.words("*7777;5;ZBLOCK 0", 1);
        CHECK.faultAt("*2;`ZBLOCK 7777", 6);
        CHECK.words("*7777;TEXT /A/", 1);
        CHECK.faultAt("*7777;`TEXT /AB/", 6);
        CHECK.faultAt("*7777;5;A,`TEXT //", 6);
        CHECK.words("*7777;5;A,;B=5;PAGE;DECIMAL;OCTAL;*0;5;$", 2);
    }

    private static void fullPages() {
        CHECK.says("PAGE V with V above 31, at V");
        CHECK.made("PAGE 37;5", 07600, 5);
        CHECK.faultAt("PAGE `40", 6);
        CHECK.faultAt("PAGE  `-1", 6);
        CHECK.faultAt("A,PAGE `37+1", 6);
        CHECK.faultAt("DECIMAL;PAGE `32", 6);
        CHECK.faultAt("PAGE `7777", 6);
        CHECK.faultAt("PAGE `40 5", 6);
        CHECK.faultAt("PAGE 40+`", 2);
        CHECK.faultAt("PAGE 40+`B", 3);
    }

    private static void manyNames() {
        CHECK.says("a 201st NAME that is told, at it.");
        CHECK.words(names(200), 0);
        CHECK.words(NAMES_200 + "5;A1=2;A1;A0 T8 T9;TAD", 4);
        CHECK.faultAt(NAMES_200 + "`X,", 6);
        CHECK.faultAt(NAMES_200 + "`X=1", 6);
        CHECK.faultAt(NAMES_200 + "`A0,", 4);
        CHECK.faultAt(NAMES_200 + "`TAD,", 5);
        CHECK.faultAt(NAMES_200 + "`X", 3);
        CHECK.words("A1=1;A1=2;A1=3;" + names(200), 0);
        CHECK.words(names(199) + "X,5", 1);
        ShareEight x = fresh();
        CHECK.due("200 names", Check.assemble(x, NAMES_200), 0);
        CHECK.due("others in the next source", Check.assemble(x, "XX,YY=1"), 0);
        StringBuilder used = new StringBuilder("5");
        for (int i = 0; i < 250; i++) {
            used.append(" X").append(i);
        }
        CHECK.fault(used.toString(), 3, 2);
        // As many names as a tape can hold: the last of them is told, and told twice.
        String crowd = crowd(1994);
        CHECK.faultAt(crowd + "\nZZ,`ZZ,", 4);
        CHECK.fault(crowd + "\nZZ,", 3, 0);
    }

    /** Names side by side, all different, none of them there or ZZ, in so many bytes at most. */
    private static String crowd(int most) {
        StringBuilder text = new StringBuilder();
        for (char first = 'A'; first <= 'Y'; first++) {
            if (first != 'I') {
                text.append(first).append(' ');
            }
        }
        String seconds = "ABCDEFGHIJKLMNOPQRSTUVWXYZ0123456789";
        for (int i = 0; i < 25 * seconds.length() && text.length() + 3 <= most; i++) {
            text.append((char) ('A' + i % 25)).append(seconds.charAt(i / 25)).append(' ');
        }
        return text.toString();
    }

    private static void pagesNotThere() {
        CHECK.says("7 a page that isn't there for I (at the ADDRESS).");
        CHECK.faultAt("TAD I `400", 7);
        CHECK.faultAt("A,TAD Z I `A+200", 7);
        CHECK.faultAt("*3777;JMP I `.+1", 7);
        CHECK.faultAt("*0;JMP I  `B-1;B=401", 7);
        CHECK.made("*3777;JMP I .-177", 03777, 05600);
        CHECK.made("*4000;JMP I .+177", 04000, 05777);
    }

    private static void noRoom() {
        CHECK.says("8 a LITERAL for which its page has no room");
        StringBuilder all = new StringBuilder("*400");
        for (int i = 0; i < 128; i++) {
            all.append(";[").append(Integer.toOctalString(i));
        }
        CHECK.words(all.toString(), 256);
        CHECK.made(all.toString(), 0, 0177, 0176);
        CHECK.faultAt(all + ";TAD I `[1000", 8);
        CHECK.words(all + ";TAD I [177", 257);
        CHECK.faultAt(all + ";*0;`5", 8);
        CHECK.says("(at it; an address without I: at it)");
        CHECK.faultAt("*377;0;*200;TAD I `(5", 8);
        CHECK.faultAt("*177;0;*200;TAD I Z `[5", 8);
        CHECK.faultAt("*377;0;*200;5 6 `(5", 8);
        CHECK.faultAt("*377;0;*200;A,TAD Z `400+1", 8);
        CHECK.faultAt("*377;TAD `400", 8);
    }

    private static void wordsOnLiterals() {
        CHECK.says("A word put where a LITERAL lies: 8 at the STATEMENT (as in 6).");
        CHECK.faultAt("(5;*377;`5", 8);
        CHECK.faultAt("(5;*377;A,B, `0", 8);
        CHECK.faultAt("[5;*177;`TAD 5", 8);
        CHECK.faultAt("(5;*377;`ZBLOCK 1", 8);
        CHECK.faultAt("(5;*370;A,`ZBLOCK 10", 8);
        CHECK.faultAt("(5;*370;A,`ZBLOCK 4000", 8);
        CHECK.faultAt("(5;*377;`TEXT //", 8);
        CHECK.faultAt("(5;*376;A,`TEXT /AB/", 8);
        CHECK.words("(5;*376;TEXT /A/;ZBLOCK 0", 3);
        CHECK.words("(5;*370;ZBLOCK 7;*400;ZBLOCK 1", 10);
        CHECK.words("(5;*376;0;*400;0", 4);
    }

    private static void aheadAndBehind() {
        CHECK.says("6 and this 8 of a WORD are told ahead of all that is in it, of TEXT and ZBLOCK behind that.");
        CHECK.faultAt("*7777;5;`5+", 6);
        CHECK.faultAt("*7777;5;`5 )", 6);
        CHECK.faultAt("*7777;5;`TAD #", 6);
        CHECK.faultAt("*7777;5;`TAD 5 6", 6);
        CHECK.faultAt("*7777;5;`-", 6);
        CHECK.faultAt("*7777;5;`A", 6);
        CHECK.faultAt("*7777;5;`)", 2);
        CHECK.faultAt("*7777;5;`9", 1);
        CHECK.faultAt("*7777;5;A=`B", 3);
        CHECK.faultAt("(5;*377;`B", 8);
        CHECK.faultAt("(5;*377;`JMP I 400", 8);
        CHECK.faultAt("(5;*377;`JMP (6", 8);
        CHECK.faultAt("*7777;ZBLOCK `B", 3);
        CHECK.faultAt("*7777;ZBLOCK 7+`", 2);
        CHECK.faultAt("*7777;ZBLOCK `9", 1);
        CHECK.faultAt("*7777;`ZBLOCK 2 )", 6);
        CHECK.faultAt("*7777;`ZBLOCK 2 #", 6);
        CHECK.faultAt("*7777;`TEXT /AB", 1);
        CHECK.faultAt("*7777;`TEXT /AB/ 5", 6);
        CHECK.faultAt("*7777;`TEXT /AB/ #", 6);
        CHECK.faultAt("*7777;ZBLOCK 1 `)", 2);
        CHECK.faultAt("(5;*377;ZBLOCK 1 `)", 2);
        CHECK.faultAt("(5;*377;TEXT /A/ `)", 2);
    }
}
