/** The edges of I, the words of a text: of each sentence that names one, both sides. */
public final class TextEdgesTest {
    private static final String D = "disk 64 seek 1 rate 1;";
    private static final String STEP = "on take 1 think 1";
    private static final String[] OWN = {"disk", "seek", "rate", "budget", "to", "idle", "slice", "near", "raise", "for",
        "rest", "weight", "from", "does", "stream", "at", "on", "take", "think", "process"};
    private static final Checks C = new Checks();
    /** One that has read other texts before; it is made anew before it is asked too often. */
    private static DiskBudgets used = new DiskBudgets();
    private static int usedCalls = 0;

    public static void main(String[] args) {
        numbersOfTheDisk();
        theDiskFirstAndAlone();
        numbersOfTheFive();
        mostBelowLeast();
        withoutTheFive();
        nearWithout();
        raiseWithout();
        oneOfEachOfTheFive();
        theFiveInAnyOrder();
        numbersOfProcesses();
        sixProcesses();
        sixSteps();
        noStep();
        streamsHaveNoAt();
        sectorsOfAt();
        takeBeyondTheLastSector();
        namesOfOneToSixLetters();
        lettersOfNames();
        ownWordsAreNoNames();
        likeOwnWords();
        namesAllUnlike();
        oneToFourDigits();
        noNumber();
        blanks();
        sideBySide();
        noBlankNeeded();
        wordsWhole();
        wordsThatBeginNoStatement();
        firstAlongTheText();
        endsTooSoon();
        withoutAStatement();
        manyStatements();
        placeCountsAllBytes();
        C.close();
    }

    // ---- disk N seek N rate N

    /** "64 .. 9999 SECTORS, 0 and on; 1 .. 500; 1 .. 64" */
    private static void numbersOfTheDisk() {
        range("disk ", 64, 9999, " seek 1 rate 1;");
        range("disk 64 seek ", 1, 500, " rate 1;");
        range("disk 64 seek 1 rate ", 1, 64, ";");
        C.same("the fewest sectors", Checks.disk("disk 64 seek 1 rate 1;").has(0), 64);
        C.same("the most sectors", Checks.disk("disk 9999 seek 1 rate 1;").has(0), 9999);
        C.same("the least rate", Checks.disk("disk 64 seek 1 rate 1;").bits(1), Checks.bits(1f));
        C.same("the greatest rate", Checks.disk("disk 64 seek 1 rate 64;").bits(1), Checks.bits(64f));
    }

    /** "the first STATEMENT, and it alone" */
    private static void theDiskFirstAndAlone() {
        for (String s : new String[] {"budget 1 to 2;", "idle 1;", "slice 1;", "near 1;", "raise 1 for 0 rest 1;",
            "process a weight 1 from 0 does " + STEP + ";", "stream a weight 1 from 0 does " + STEP + ";"}) {
            good(D + s, 2);
            bad(1, "^" + s + D);
            bad(1, D + s + "^" + D);
        }
        bad(1, D + "^disk");
        bad(1, D + "^" + D);
    }

    // ---- these five

    /** "LEAST, MOST, 1 .. 999", "0 .. 20", "1 .. 200", "0 .. 999", "1 .. 20, 0 .. 500, 1 .. 999" */
    private static void numbersOfTheFive() {
        range(D + "budget ", 1, 999, " to 999;");
        range(D + "budget 1 to ", 1, 999, ";");
        range(D + "idle ", 0, 20, ";");
        range(D + "slice ", 1, 200, ";");
        range(D + "near ", 0, 999, ";");
        range(D + "raise ", 1, 20, " for 0 rest 1;");
        range(D + "raise 1 for ", 0, 500, " rest 1;");
        range(D + "raise 1 for 0 rest ", 1, 999, ";");
    }

    /** "2 a number that can't be (MOST below LEAST ..), at it" */
    private static void mostBelowLeast() {
        good(D + "budget 500 to 500;", 2);
        bad(2, D + "budget 500 to ^499;");
        good(D + "budget 999 to 999;", 2);
        bad(2, D + "budget 999 to ^998;");
        bad(2, D + "budget 999 to ^1000;");
    }

    /** "8 to 64 without", "0 .. 20; 4", "1 .. 200; 40" */
    private static void withoutTheFive() {
        DiskBudgets x = Checks.disk(D + "process a weight 1 from 0 does " + STEP + ";");
        C.same("budget", x.queue(0, 1), 36);
        C.same("most", x.has(10), 64);
        C.same("idle", x.has(8), 4);
        C.same("slice", x.has(9), 40);
        // Half of half goes below 8 at the third one that expires: it stays at 8.
        DiskBudgets y = Checks.disk("disk 64 seek 64 rate 64;idle 0;process a weight 1 from 0 does at 0 take 1 think 9;");
        int[] budgets = {36, 18, 9, 8, 8};
        for (int k = 0; k < budgets.length; k++) {
            while (y.has(11) < k) y.ticks(1);
            C.same("budget behind " + k, y.queue(0, 1), budgets[k]);
        }
    }

    /** "near N (0 .. 999; 16)" */
    private static void nearWithout() {
        String one = "process a weight 1 from 999 does " + STEP + ";";
        DiskBudgets x = Checks.disk(D + one);
        x.ask(0, 16, 1);
        C.same("16 is near", x.queue(0, 4), 0);
        x = Checks.disk(D + one);
        x.ask(0, 17, 1);
        C.same("17 is far", x.queue(0, 4), 1);
    }

    /** "raise N for N rest N (.. 1 for 0 rest 999 without)" */
    private static void raiseWithout() {
        DiskBudgets x = Checks.disk(D + "process a weight 3 from 998 does " + STEP + ";process b weight 3 from 999 does at 60 take 1 think 1;");
        Checks.go(x, 1000);
        C.same("at 998", x.queue(0, 7), 0);
        C.same("at 999, for 0", x.queue(1, 7), 999);
        C.same("its weight, once", x.queue(1, 8), 3);
    }

    /** "these five one each"; "5 one too many of a kind (.. a second one of these five), at its first byte" */
    private static void oneOfEachOfTheFive() {
        String[] five = {"budget 1 to 2;", "idle 1;", "slice 1;", "near 1;", "raise 1 for 0 rest 1;"};
        for (String s : five) {
            String word = s.substring(0, s.indexOf(' '));
            good(D + s, 2);
            bad(5, D + s + "^" + s);
            bad(5, D + s + "^" + word);
            bad(5, D + s + " \n ^" + word + " 9999 x");
            for (String other : five) {
                if (!other.equals(s)) {
                    good(D + s + other, 3);
                    bad(5, D + s + other + "^" + s);
                }
            }
            bad(1, D + s + "^" + word + "s");
        }
    }

    /** They stand where one likes, behind the disk. */
    private static void theFiveInAnyOrder() {
        DiskBudgets x = Checks.disk(D + "process a weight 1 from 0 does " + STEP + ";raise 2 for 3 rest 4;near 5;slice 6;idle 7;budget 9 to 10;");
        C.same("idle", x.has(8), 7);
        C.same("slice", x.has(9), 6);
        C.same("most", x.has(10), 10);
        C.same("budget", x.queue(0, 1), 9);
    }

    // ---- processes and streams

    /** "(1 .. 100; 0 .. 999; ..)", "1 .. 64; 0 .. 200" */
    private static void numbersOfProcesses() {
        for (String kind : new String[] {"process", "stream"}) {
            range(D + kind + " a weight ", 1, 100, " from 0 does " + STEP + ";");
            range(D + kind + " a weight 1 from ", 0, 999, " does " + STEP + ";");
            range(D + kind + " a weight 1 from 0 does on take ", 1, 64, " think 1;");
            range(D + kind + " a weight 1 from 0 does on take 1 think ", 0, 200, ";");
            range(D + kind + " a weight 1 from 0 does " + STEP + ",on take ", 1, 64, " think 1;");
            range(D + kind + " a weight 1 from 0 does " + STEP + ",on take 1 think ", 0, 200, "," + STEP + ";");
        }
        range(D + "process a weight 1 from 0 does at 0 take ", 1, 64, " think 1;");
        range(D + "process a weight 1 from 0 does at 0 take 1 think ", 0, 200, ";");
    }

    /** "6 PROCESSES in all, .. a stream is one, too"; "5 .. (a 7th of the PROCESSES ..), at its first byte" */
    private static void sixProcesses() {
        for (int streams = 0; streams <= 6; streams++) {
            StringBuilder b = new StringBuilder(D);
            for (int i = 0; i < 6; i++) {
                b.append(i < streams ? "stream " : "process ").append((char) ('a' + i)).append(" weight 1 from 0 does " + STEP + ";");
            }
            good(b.toString(), 7);
            good(b + "idle 1;", 8);
            bad(5, b + "^process g weight 1 from 0 does " + STEP + ";");
            bad(5, b + "^stream g weight 1 from 0 does " + STEP + ";");
            bad(5, b + " ^process");
            bad(5, b + "\n^stream a");
            bad(1, b + "^processs");
            bad(1, b + "^streams");
            C.same("six", Checks.disk(b.toString()).has(1), 6);
        }
        C.same("none", Checks.disk(D).has(1), 0);
    }

    /** "6 STEPS of one"; "a 7th STEP at its first byte (at or on; 5 goes ahead of 6)" */
    private static void sixSteps() {
        for (String kind : new String[] {"process", "stream"}) {
            String one = D + kind + " a weight 1 from 0 does ";
            String five = STEP + "," + STEP + "," + STEP + "," + STEP + "," + STEP + ",";
            good(one + five + STEP + ";", 2);
            bad(5, one + five + STEP + ",^" + STEP + ";");
            bad(5, one + five + STEP + ", ^on");
            bad(5, one + five + STEP + ",^at 0 take 1 think 1;");
            bad(5, one + five + STEP + ",\n^at 9999");
            bad(1, one + five + STEP + ",^;");
            bad(1, one + five + STEP + ",^take");
            bad(1, one + five + STEP + ",^ons");
            bad(1, one + five + STEP + ",^");
            bad(1, one + five + STEP + " ^on");
        }
        good(D + "process a weight 1 from 0 does " + STEP + ";process b weight 1 from 0 does " + STEP + "," + STEP + ","
                + STEP + "," + STEP + "," + STEP + "," + STEP + ";", 3);
    }

    /** "does STEP { , STEP }": one at least. */
    private static void noStep() {
        good(D + "process a weight 1 from 0 does " + STEP + ";", 2);
        bad(1, D + "process a weight 1 from 0 does^;");
        bad(1, D + "process a weight 1 from 0 does ^," + STEP + ";");
        bad(1, D + "process a weight 1 from 0 does " + STEP + ",^;");
        bad(1, D + "process a weight 1 from 0 ^;");
    }

    /** "A stream has no STEP with at"; "6 at as a STEP of a stream, at it" */
    private static void streamsHaveNoAt() {
        good(D + "process a weight 1 from 0 does at 0 take 1 think 1;", 2);
        bad(6, D + "stream a weight 1 from 0 does ^at 0 take 1 think 1;");
        bad(6, D + "stream a weight 1 from 0 does \n ^at");
        bad(6, D + "stream a weight 1 from 0 does ^at 9999");
        bad(6, D + "stream a weight 1 from 0 does " + STEP + ",^at 0 take 1 think 1;");
        bad(6, D + "stream a weight 1 from 0 does " + STEP + "," + STEP + "," + STEP + "," + STEP + "," + STEP + ",^at 0");
        bad(1, D + "stream a weight 1 from 0 does ^att");
        bad(6, D + "process b weight 1 from 0 does at 1 take 1 think 1;stream a weight 1 from 0 does ^at 0");
        good(D + "stream a weight 1 from 0 does " + STEP + ";process b weight 1 from 0 does at 1 take 1 think 1;", 3);
    }

    /** "2 .. of at one that no SECTOR has" */
    private static void sectorsOfAt() {
        range(D + "process a weight 1 from 0 does at ", 0, 63, " take 1 think 1;");
        range("disk 9998 seek 1 rate 1;process a weight 1 from 0 does at ", 0, 9997, " take 1 think 1;");
        good("disk 9999 seek 1 rate 1;process a weight 1 from 0 does at 9998 take 1 think 1;", 2);
        bad(2, "disk 9999 seek 1 rate 1;process a weight 1 from 0 does at ^9999 take 1 think 1;");
        bad(2, D + "process a weight 1 from 0 does " + STEP + ",at ^64 take 1 think 1;");
    }

    /** "2 .. of take there one by which it goes beyond the last SECTOR, too" */
    private static void takeBeyondTheLastSector() {
        String at = D + "process a weight 1 from 0 does at ";
        good(at + "0 take 64 think 1;", 2);
        bad(2, at + "0 take ^65 think 1;");
        good(at + "1 take 63 think 1;", 2);
        bad(2, at + "1 take ^64 think 1;");
        good(at + "60 take 4 think 1;", 2);
        bad(2, at + "60 take ^5 think 1;");
        good(at + "63 take 1 think 1;", 2);
        bad(2, at + "63 take ^2 think 1;");
        bad(2, at + "63 take ^0 think 1;");
        String large = "disk 9999 seek 1 rate 1;process a weight 1 from 0 does at ";
        good(large + "9935 take 64 think 1;", 2);
        bad(2, large + "9936 take ^64 think 1;");
        bad(2, large + "9934 take ^65 think 1;");
        // By on it may be told wherever PLACE is.
        good(D + "process a weight 1 from 0 does at 63 take 1 think 1,on take 64 think 1;", 2);
    }

    // ---- names

    /** "NAMES: 1 to 6 letters"; "a 7th letter at itself" */
    private static void namesOfOneToSixLetters() {
        for (String kind : new String[] {"process ", "stream "}) {
            String rest = " weight 1 from 0 does " + STEP + ";";
            bad(1, D + kind + "^;");
            bad(1, D + kind + "^1" + rest);
            bad(1, D + kind + "^12345" + rest);
            bad(1, D + kind + "^");
            good(D + kind + "a" + rest, 2);
            good(D + kind + "z" + rest, 2);
            good(D + kind + "zzzzzz" + rest, 2);
            bad(1, D + kind + "zzzzzz^z" + rest);
            bad(1, D + kind + "abcdef^ghij" + rest);
            bad(1, D + kind + "weight^s" + rest);
            bad(1, D + kind + "process".substring(0, 6) + "^ses" + rest);
            bad(1, D + kind + "abcdef^g");
            // A 7th letter makes it no NAME, so that it is none that is there already.
            bad(1, D + kind + "abcdef" + rest + kind + "abcdef^g" + rest);
            bad(3, D + kind + "abcdef" + rest + kind + "^abcdef" + rest);
            bad(1, D + kind + "^weight 1 from 0 does " + STEP + ";");
        }
    }

    /** Letters are a .. z: the bytes beside them are none. */
    private static void lettersOfNames() {
        String rest = " weight 1 from 0 does " + STEP + ";";
        for (int c : new int[] {'`', '{', '@', '[', 'A', 'Z', '_', '-', '/', ':', 0, 127, 225, 255}) {
            bad(1, D + "process ^" + (char) c + rest);
            bad(1, D + "process a^" + (char) c + rest);
        }
        DiskBudgets x = Checks.disk(D + "process abyz" + rest);
        int[] due = {1, 2, 25, 26, 0, 0};
        for (int k = 0; k < 6; k++) C.same("letter " + k, x.letter(0, k), due[k]);
    }

    /** "NAMES: .. no OWN WORD"; "where a NAME is asked, an OWN WORD so" (whole, at its first byte) */
    private static void ownWordsAreNoNames() {
        C.same("twenty", OWN.length, 20);
        for (String w : OWN) {
            bad(1, D + "process ^" + w + " weight 1 from 0 does " + STEP + ";");
            bad(1, D + "stream \n^" + w);
        }
    }

    /** A letter more or less, and it is an own word no more. */
    private static void likeOwnWords() {
        String rest = " weight 1 from 0 does " + STEP + ";";
        for (String w : OWN) {
            if (w.length() < 6) good(D + "process " + w + "s" + rest, 2);
            if (w.length() < 6) good(D + "process x" + w + rest, 2);
            good(D + "process " + w.substring(1) + rest, 2);
            good(D + "process " + w.substring(0, w.length() - 1) + rest, 2);
            bad(1, D + "^" + w.substring(1) + " 1;");
            bad(1, D + "^" + w + "s 1;");
        }
    }

    /** "all unlike"; "3 a NAME that is there already, at it" */
    private static void namesAllUnlike() {
        String rest = " weight 1 from 0 does " + STEP + ";";
        for (String first : new String[] {"process ", "stream "}) {
            for (String second : new String[] {"process ", "stream "}) {
                bad(3, D + first + "ab" + rest + second + "^ab" + rest);
                bad(3, D + first + "abcdef" + rest + second + "^abcdef" + rest);
                good(D + first + "abcdef" + rest + second + "abcdeg" + rest, 3);
                good(D + first + "abcdef" + rest + second + "abcde" + rest, 3);
                good(D + first + "ab" + rest + second + "abc" + rest, 3);
                good(D + first + "ab" + rest + second + "ba" + rest, 3);
                bad(1, D + first + "abcdef" + rest + second + "abcdef^g" + rest);
                bad(3, D + first + "a" + rest + "process c" + rest + second + "\n^a");
                bad(3, D + first + "a" + rest + second + "^a 1");
            }
        }
        StringBuilder six = new StringBuilder(D);
        for (char c = 'a'; c <= 'e'; c++) six.append("process ").append(c).append(rest);
        for (char c = 'a'; c <= 'e'; c++) bad(3, six + "process ^" + c + rest);
        // The names of a former disk are free again.
        DiskBudgets x = Checks.disk(six.toString());
        Checks.put(x, D + "process a" + rest);
        C.same("again", x.disk(), 2);
    }

    // ---- numbers

    /** "N: 1 to 4 digits"; "where a number is asked, a 5th digit at itself" */
    private static void oneToFourDigits() {
        String[][] all = {{"disk ", "0064", " seek 1 rate 1;"}, {"disk 64 seek ", "0001", " rate 1;"}, {"disk 64 seek 1 rate ", "0001", ";"},
            {D + "budget ", "0001", " to 9;"}, {D + "budget 1 to ", "0009", ";"}, {D + "idle ", "0020", ";"}, {D + "slice ", "0200", ";"},
            {D + "near ", "0999", ";"}, {D + "raise ", "0020", " for 1 rest 1;"}, {D + "raise 1 for ", "0500", " rest 1;"},
            {D + "raise 1 for 1 rest ", "0999", ";"}, {D + "process a weight ", "0100", " from 0 does on take 1 think 1;"},
            {D + "process a weight 1 from ", "0999", " does on take 1 think 1;"}, {D + "process a weight 1 from 0 does on take ", "0064", " think 1;"},
            {D + "process a weight 1 from 0 does at ", "0063", " take 1 think 1;"}, {D + "process a weight 1 from 0 does at 0 take ", "0064", " think 1;"},
            {D + "process a weight 1 from 0 does on take 1 think ", "0200", ";"}};
        for (String[] s : all) {
            C.same("four digits in " + s[0] + s[1] + s[2], put(s[0] + s[1] + s[2]).disk() > 0, true);
            bad(1, s[0] + s[1] + "^0" + s[2]);
            bad(1, s[0] + "0000^1" + s[2]);
            bad(1, s[0] + "9999^9" + s[2]);
            bad(1, s[0] + "9999^99999999" + s[2]);
        }
        good("disk 64 seek 1 rate 1;idle 0;", 2);
        good("disk 64 seek 1 rate 1;idle 0000;", 2);
        // Where none is asked, it is whole, at its first byte.
        bad(1, D + "^12345;");
        bad(1, "disk 64 ^12345");
        bad(1, "^12345");
    }

    /** A number must be there: no sign ahead of it, none left out. */
    private static void noNumber() {
        bad(1, D + "idle ^;");
        bad(1, D + "idle ^-1;");
        bad(1, D + "idle ^+1;");
        bad(1, D + "idle ^x;");
        bad(1, D + "idle ^to;");
        bad(1, D + "idle 1^.0;");
        bad(1, D + "idle ^/;");
        bad(1, D + "idle ^:;");
        bad(1, "disk ^seek");
    }

    // ---- blanks

    /** "Blanks (10, 32) are where one likes": no others are. */
    private static void blanks() {
        good("\n\n  disk \n 64\nseek\n1\nrate\n1\n;\n", 1);
        good(D + " \n process\na\nweight 1 from 0\n\ndoes on take 1 think 1 , on take 1 think 1 ; ", 2);
        for (int c = 0; c < 256; c++) {
            boolean blank = c == 10 || c == 32;
            if (blank) good(D + (char) c, 1);
            else if (c < 'a' || c > 'z') bad(1, D + "^" + (char) c);
        }
        for (int c : new int[] {9, 11, 12, 13, 31, 33, 0, 138, 160}) {
            bad(1, "disk^" + (char) c + "64 seek 1 rate 1;");
            bad(1, "disk 64 seek 1 rate 1^" + (char) c + ";");
            bad(1, "^" + (char) c + D);
        }
    }

    /** "words and numbers side by side need one" */
    private static void sideBySide() {
        bad(1, "disk^64 seek 1 rate 1;");
        bad(1, "disk 64^seek 1 rate 1;");
        bad(1, "disk 64 seek 1^rate 1;");
        bad(1, "disk 64 seek^1 rate 1;");
        bad(1, "^diskdisk 64 seek 1 rate 1;");
        bad(1, D + "idle^1;");
        bad(1, D + "budget 1^to 2;");
        bad(1, D + "budget 1 to^2;");
        bad(1, D + "process a^1 weight 1 from 0 does " + STEP + ";");
        bad(1, D + "process abcdef^1 weight 1 from 0 does " + STEP + ";");
        bad(1, D + "process abcdef^g1 weight 1 from 0 does " + STEP + ";");
        bad(1, D + "process ^1a weight 1 from 0 does " + STEP + ";");
        bad(1, D + "process a weight 1 from 0 does on take^1 think 1;");
        bad(1, D + "process a weight 1 from 0 does on take 1^think 1;");
        bad(1, D + "process a weight 1 from 0 does ^ontake 1 think 1;");
        bad(1, D + "process a weight 1 from 0^does on take 1 think 1;");
        bad(1, D + "^processa weight 1 from 0 does " + STEP + ";");
        bad(1, D + "process aweigh^t 1 from 0 does " + STEP + ";");
        // The number that touches is looked at first: its place is ahead.
        bad(2, "disk ^63seek 1 rate 1;");
        bad(1, "disk 0064^5seek 1 rate 1;");
    }

    /** Beside the signs ; and , none is needed. */
    private static void noBlankNeeded() {
        good("disk 64 seek 1 rate 1;idle 1;process a weight 1 from 0 does on take 1 think 1,at 0 take 1 think 1;slice 1;", 4);
        bad(1, D + "^,");
        bad(1, D + "idle 1^,");
        bad(1, "disk 64^;");
        bad(1, "disk^; 64");
    }

    /** "words and numbers whole, at their first byte" */
    private static void wordsWhole() {
        bad(1, "^dis 64 seek 1 rate 1;");
        bad(1, "^disks 64 seek 1 rate 1;");
        bad(1, "^disc 64 seek 1 rate 1;");
        bad(1, "^dISK 64 seek 1 rate 1;");
        bad(1, "disk 64 ^seeks 1 rate 1;");
        bad(1, "disk 64 ^see");
        bad(1, "disk 64 seek 1 ^rat");
        bad(1, "disk 64 seek 1 ^1234 rate 1;");
        bad(1, D + "^id");
        bad(1, D + "^idlee 1;");
        bad(1, D + "budget 1 ^too 2;");
        bad(1, D + "raise 1 ^fo 1 rest 1;");
        bad(1, D + "raise 1 for 1 ^rests 1;");
        bad(1, D + "process a ^weigh 1 from 0 does " + STEP + ";");
        bad(1, D + "process a weight 1 ^form 0 does " + STEP + ";");
        bad(1, D + "process a weight 1 from 0 ^do " + STEP + ";");
        bad(1, D + "process a weight 1 from 0 does ^o take 1 think 1;");
        bad(1, D + "process a weight 1 from 0 does on ^takes 1 think 1;");
        bad(1, D + "process a weight 1 from 0 does on take 1 ^thin 1;");
        // A name where a word of another place is due.
        bad(1, D + "^abc 1;");
        bad(1, D + "process a ^b weight 1 from 0 does " + STEP + ";");
    }

    /** A statement begins with disk, one of the five, process or stream. */
    private static void wordsThatBeginNoStatement() {
        for (String w : OWN) {
            if ("budget idle slice near raise process stream".contains(w)) continue;
            bad(1, D + "^" + w + " 3;");
            bad(1, D + "^" + w + " 3 for 3 rest 3;");
            bad(1, D + "^" + w + " 3 to 4;");
            bad(1, D + "^" + w + " a weight 1 from 0 does " + STEP + ";");
            bad(1, D + "^" + w);
        }
        bad(1, D + "^a weight 1 from 0 does " + STEP + ";");
    }

    // ---- which fault

    /** "FAULTS, the first along the text" */
    private static void firstAlongTheText() {
        bad(2, "disk ^63 seek 0 rate 0; x");
        bad(2, "disk 64 seek ^0 rate 65;");
        bad(1, "disk 64 ^x 0 rate 65;");
        bad(2, D + "idle ^21;idle 1;");
        bad(5, D + "idle 1;^idle 21;");
        bad(1, D + "idle 1 ^idle 1;");
        String one = "process a weight 1 from 0 does " + STEP + ";";
        bad(3, D + one + "process ^a weight 0 from 1000;");
        bad(2, D + one + "process b weight ^0 from 0 does " + STEP + ";process a");
        bad(6, D + one + "stream b weight 1 from 0 does ^at 64 take 0 think 201;");
        bad(2, D + one + "stream b weight 1 from ^1000 does at 64;");
        bad(2, D + "process a weight 1 from 0 does at ^64 take 65 think 201;");
        bad(2, D + "process a weight 1 from 0 does at 63 take ^2 think 201;");
        bad(2, D + "process a weight 1 from 0 does at 63 take 1 think ^201,x");
    }

    /** "at the text's length, if it ends too soon" */
    private static void endsTooSoon() {
        String whole = "disk 64 seek 1 rate 1 ; budget 1 to 2 ; idle 3 ; slice 4 ; near 5 ; raise 6 for 7 rest 8 ; "
            + "process abc weight 9 from 10 does at 11 take 12 think 13 , on take 14 think 15 ; stream d weight 16 from 17 does on take 18 think 19 ;";
        for (int i = 0; i < whole.length(); i++) {
            if (whole.charAt(i) != ' ') continue;
            String cut = whole.substring(0, i);
            boolean isWhole = cut.endsWith(";");
            if (isWhole) C.same("disk() of " + cut, put(cut).disk() > 0, true);
            else bad(1, cut + "^");
            if (!isWhole) bad(1, cut + " \n ^");
        }
        good(whole, 8);
        // A word that is cut is a word that is none, at its first byte; a number that is cut is a number.
        bad(1, "disk 64 seek 1 ^ra");
        bad(1, "disk 999^");
        bad(2, "disk ^6");
    }

    /** "one without a STATEMENT has FAULT 1 at its length" */
    private static void withoutAStatement() {
        bad(1, "^");
        bad(1, " ^");
        bad(1, "\n \n^");
        bad(1, " \n  ^;");
    }

    /** "how many STATEMENTS": 12 at the most. */
    private static void manyStatements() {
        StringBuilder b = new StringBuilder(D + "budget 1 to 2;idle 3;slice 4;near 5;raise 6 for 7 rest 8;");
        good(b.toString(), 6);
        for (char c = 'a'; c <= 'f'; c++) {
            b.append("process ").append(c).append(" weight 1 from 0 does " + STEP + ";");
            good(b.toString(), 7 + c - 'a');
        }
    }

    /** The place is that on the tape, blanks and all, from 0 on. */
    private static void placeCountsAllBytes() {
        bad(2, "   disk \n\n ^63");
        StringBuilder blanks = new StringBuilder(D);
        while (blanks.length() < 1599) blanks.append(' ');
        bad(1, blanks + "^x");
        bad(1, blanks + "^;");
        good(blanks + " ", 1);
        good(blanks + "\n", 1);
        good(blanks.substring(22) + D, 1);
        bad(1, blanks.substring(22) + " " + D.substring(0, 21) + " ^");
    }

    // ---- helpers

    private static DiskBudgets put(String text) {
        DiskBudgets x = new DiskBudgets();
        put(x, text);
        return x;
    }

    private static void put(DiskBudgets x, String text) {
        int full = 0;
        for (int i = 0; i < text.length(); i += 20) {
            int[] five = new int[5];
            for (int k = 0; k < 20; k++) five[k / 4] |= (i + k < text.length() ? text.charAt(i + k) & 255 : 59) << (24 - 8 * (k % 4));
            full = x.feed(five[0], five[1], five[2], five[3], five[4]);
        }
        C.same("on the tape", full, (text.length() + 19) / 20 * 20);
        C.same("its length", x.end(text.length()), true);
    }

    private static void good(String text, int statements) {
        told(put(text), text, statements, 0, -1);
        told(usedFor(text), text, statements, 0, -1);
    }

    /** The sign ^ stands ahead of the byte at which the fault is due, and is not of the text. */
    private static void bad(int kind, String marked) {
        int place = marked.indexOf('^');
        String text = marked.substring(0, place) + marked.substring(place + 1);
        told(put(text), marked, -1, kind, place);
        told(usedFor(text), marked, -1, kind, place);
    }

    private static void told(DiskBudgets x, String text, int statements, int kind, int place) {
        C.same("disk() of " + text, x.disk(), statements);
        C.same("fault(0) of " + text, x.fault(0), kind);
        C.same("fault(1) of " + text, x.fault(1), place);
    }

    /** What former texts told must not tell in the next one. */
    private static DiskBudgets usedFor(String text) {
        if (usedCalls + text.length() / 20 + 6 > 512) {
            used = new DiskBudgets();
            usedCalls = 0;
        }
        usedCalls += text.length() / 20 + 6;
        put(used, text);
        return used;
    }

    /** A number from low to high: the least and the greatest are taken, those beside them are FAULT 2 at it. */
    private static void range(String ahead, int low, int high, String behind) {
        for (int n : new int[] {low, high}) C.same("disk() of " + ahead + n + behind, put(ahead + n + behind).disk() > 0, true);
        if (low > 0) bad(2, ahead + "^" + (low - 1) + behind);
        if (low > 0) bad(2, ahead + "^0" + behind);
        if (high < 9999) bad(2, ahead + "^" + (high + 1) + behind);
        if (high < 9999) bad(2, ahead + "^9999" + behind);
        else bad(1, ahead + "1000^0" + behind);
    }
}
