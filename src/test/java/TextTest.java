/** Promises 1 to 5, 7: the tape, the disk's text and its faults. */
public final class TextTest {
    private static final String D = "disk 64 seek 1 rate 1;";
    private static final String P = "process a weight 1 from 0 does ";
    private static final Checks C = new Checks();

    public static void main(String[] args) {
        newObject();
        tape();
        whole();
        fault1();
        fault2();
        fault3();
        fault5and6();
        wholeTape();
        stays();
        asWithoutRaise();
        C.close();
    }

    private static void newObject() {
        DiskBudgets x = new DiskBudgets();
        for (int w = 0; w < 15; w++) C.same("has " + w, x.has(w), w == 4 || w == 6 || w == 7 ? -1 : w == 14 ? 1 : 0);
        C.same("has 15", x.has(15), -1);
        C.same("has -1", x.has(-1), -1);
        C.same("fault", x.fault(0), 0);
        C.same("fault place", x.fault(1), -1);
        C.same("octet", x.octet(0), -1);
        C.same("ticks", x.ticks(1), -1);
        C.same("status", x.status(2), 1);
    }

    private static void tape() {
        DiskBudgets x = new DiskBudgets();
        for (int i = 1; i <= 80; i++) C.same("feed", x.feed(-1, 0, 1, 2, 3), 20 * i);
        C.same("feed more", x.feed(0, 0, 0, 0, 0), -1);
        C.same("status", x.status(0), 1);
        C.same("end too far", x.end(1601), false);
        C.same("end below 0", x.end(-1), false);
        C.same("status", x.status(0), 3);
        C.same("end there", x.end(1600), true);
        C.same("end", x.end(1581), true);
        C.same("feed at 1581", x.feed(0, 0, 0, 0, 0), -1);
        C.same("end", x.end(1580), true);
        C.same("feed at 1580", x.feed(0, 0, 0, 0, 0), 1600);
        C.same("end 0", x.end(0), true);
        C.same("end 1", x.end(1), false);
        C.same("feed", x.feed(0x6469736b, 0x20363420, 0x7365656b, 0x20312072, 0x61746520), 20);
        C.same("feed", x.feed(0x313b0000, 0, 0, 0, 0), 40);
        C.same("end", x.end(22), true);
        C.same("highest first", x.disk(), 1);
        C.same("the tape is gone", x.end(1), false);
    }

    private static void whole() {
        good(D, 1);
        good("\n disk\n64 seek 1\nrate  1 ;\n", 1);
        good("disk 9999 seek 500 rate 64;", 1);
        good("disk 0064 seek 0001 rate 1;", 1);
        good(D + "budget 1 to 1;idle 0;slice 1;near 0;raise 1 for 0 rest 1;", 6);
        good(D + "raise 20 for 500 rest 999;near 999;slice 200;idle 20;budget 999 to 999;", 6);
        good(D + P + "on take 64 think 200,at 63 take 1 think 0 , at 0 take 64 think 1,on take 1 think 0,on take 1 think 0,on take 1 think 0;", 2);
        good(D + "stream abcdef weight 100 from 999 does on take 1 think 0;", 2);
        good(D + "process ato weight 1 from 0 does on take 1 think 0;process proces weight 1 from 0 does on take 1 think 0;", 3);
        DiskBudgets x = Checks.disk(D + "process az weight 7 from 3 does on take 1 think 0;stream b weight 2 from 0 does on take 1 think 0;");
        C.same("letter", x.letter(0, 0), 1);
        C.same("letter", x.letter(0, 1), 26);
        C.same("letter behind", x.letter(0, 2), 0);
        C.same("letter behind", x.letter(0, 5), 0);
        C.same("letter 6", x.letter(0, 6), -1);
        C.same("letter -1", x.letter(0, -1), -1);
        C.same("letter", x.letter(1, 0), 2);
        C.same("letter of none", x.letter(2, 0), -1);
        C.same("letter of none", x.letter(-1, 0), -1);
        C.same("weight", x.process(0, 0), 7);
        C.same("from", x.process(0, 1), 3);
    }

    private static void fault1() {
        bad("", 1, 0);
        bad(" \n ", 1, 3);
        bad("idle 3;", 1, 0);
        bad("disks 64 seek 1 rate 1;", 1, 0);
        bad("Disk 64 seek 1 rate 1;", 1, 0);
        bad("disk64 seek 1 rate 1;", 1, 4);
        bad("disk 64seek 1 rate 1;", 1, 7);
        bad("disk 12345", 1, 9);
        bad("disk 00064 seek 1 rate 1;", 1, 9);
        bad("disk", 1, 4);
        bad("disk  ", 1, 6);
        bad("disk x", 1, 5);
        bad("disk 64 see", 1, 8);
        bad("disk 64 seek 1 rate 1", 1, 21);
        bad("disk 64 seek 1 rate 1,", 1, 21);
        bad(D + ";", 1, 22);
        bad(D + "disk 64 seek 1 rate 1;", 1, 22);
        bad(D + "idles 3;", 1, 22);
        bad(D + "idle3;", 1, 26);
        bad(D + "idle 3 4;", 1, 29);
        bad(D + "idle 3 idle 3;", 1, 29);
        for (String w : new String[] {"seek", "rate", "to", "for", "rest", "weight", "from", "does", "at", "on", "take", "think"}) {
            bad(D + w + " 3;", 1, 22);
            bad(D + w + " 3 for 3 rest 3;", 1, 22);
            bad(D + "process " + w + " weight 1 from 0 does on take 1 think 1;", 1, 30);
        }
        bad(D + "12345;", 1, 22);
        bad(D + "\tidle 3;", 1, 22);
        bad(D + "\0", 1, 22);
        bad(D + "idle 3\0;", 1, 28);
        bad(D + "idle 3\u00e9;", 1, 28);
        bad(D + "budget 3 4;", 1, 31);
        bad(D + "process ;", 1, 30);
        bad(D + "process 1;", 1, 30);
        bad(D + "process", 1, 29);
        bad(D + "process think weight", 1, 30);
        bad(D + "process process weight", 1, 30);
        bad(D + "process abcdefg weight", 1, 36);
        bad(D + "process processes weight", 1, 36);
        bad(D + "process aA weight", 1, 31);
        bad(D + "process a1 weight", 1, 31);
        bad(D + "process a weight 1 from 0 does ;", 1, 53);
        bad(D + P + "on take 1 think 1,;", 1, 71);
        bad(D + P + "on take 1 think 1 on take 1 think 1;", 1, 71);
        bad(D + P + "on 3 take 1 think 1;", 1, 56);
        bad(D + P + "at take 1 think 1;", 1, 56);
        bad(D + P + "on take 1 think 1,", 1, 71);
    }

    private static void fault2() {
        bad("disk 63 x", 2, 5);
        bad("disk 64 seek 0", 2, 13);
        bad("disk 64 seek 501", 2, 13);
        bad("disk 64 seek 1 rate 0", 2, 20);
        bad("disk 64 seek 1 rate 65;", 2, 20);
        bad("disk 63seek", 2, 5);
        bad(D + "budget 0 to 4;", 2, 29);
        bad(D + "budget 1000 to 4;", 2, 29);
        bad(D + "budget 5 to 4;", 2, 34);
        bad(D + "budget 5 to 1000;", 2, 34);
        bad(D + "idle 21;", 2, 27);
        bad(D + "slice 0;", 2, 28);
        bad(D + "slice 201;", 2, 28);
        bad(D + "near 1000;", 2, 27);
        bad(D + "raise 0 for 1 rest 1;", 2, 28);
        bad(D + "raise 21 for 1 rest 1;", 2, 28);
        bad(D + "raise 1 for 501 rest 1;", 2, 34);
        bad(D + "raise 1 for 1 rest 0;", 2, 41);
        bad(D + "raise 1 for 1 rest 1000;", 2, 41);
        bad(D + "process a weight 0", 2, 39);
        bad(D + "process a weight 101", 2, 39);
        bad(D + "process a weight 1 from 1000", 2, 46);
        bad(D + P + "at 64 take 1 think 1;", 2, 56);
        bad(D + P + "at 60 take 5 think 1;", 2, 64);
        bad(D + P + "at 0 take 65 think 1;", 2, 63);
        bad(D + P + "at 0 take 0 think 1;", 2, 63);
        bad(D + P + "on take 65 think 1;", 2, 61);
        bad(D + P + "on take 0 think 1;", 2, 61);
        bad(D + P + "on take 1 think 201;", 2, 69);
    }

    private static void fault3() {
        bad(D + P + "on take 1 think 1;process a weight 1", 3, 79);
        bad(D + P + "on take 1 think 1;stream a weight 1", 3, 78);
        good(D + P + "on take 1 think 1;stream ab weight 1 from 0 does on take 1 think 1;", 3);
    }

    private static void fault5and6() {
        bad(D + "idle 1;idle 2;", 5, 29);
        bad(D + "budget 1 to 2;budget", 5, 36);
        bad(D + "slice 1;slice", 5, 30);
        bad(D + "near 1;near", 5, 29);
        bad(D + "raise 1 for 0 rest 1;raise", 5, 43);
        bad(D + "idle 1;idles", 1, 29);
        StringBuilder six = new StringBuilder(D);
        for (char c = 'a'; c <= 'f'; c++) six.append("process ").append(c).append(" weight 1 from 0 does on take 1 think 1;");
        good(six.toString(), 7);
        bad(six + "process a", 5, six.length());
        bad(six + "stream", 5, six.length());
        bad(six + "processx", 1, six.length());
        good(six + "idle 1;", 8);
        String steps = "on take 1 think 1,on take 1 think 1,on take 1 think 1,on take 1 think 1,on take 1 think 1,on take 1 think 1,";
        bad(D + P + steps + "on", 5, D.length() + P.length() + steps.length());
        bad(D + P + steps + " at 99", 5, D.length() + P.length() + steps.length() + 1);
        bad(D + P + steps + "to", 1, D.length() + P.length() + steps.length());
        String s = "stream a weight 1 from 0 does ";
        bad(D + s + steps + "at 0", 5, D.length() + s.length() + steps.length());
        bad(D + s + "at 99", 6, D.length() + s.length());
        bad(D + s + "on take 1 think 1, at 0", 6, D.length() + s.length() + 19);
        bad(D + s + "att", 1, D.length() + s.length());
    }

    private static void wholeTape() {
        StringBuilder signs = new StringBuilder();
        StringBuilder blanks = new StringBuilder(D);
        while (signs.length() < 1580) signs.append(';');
        while (blanks.length() < 1580) blanks.append('\n');
        bad(signs.toString(), 1, 0);
        good(blanks.toString(), 1);
        DiskBudgets x = new DiskBudgets();
        for (int i = 0; i < 80; i++) x.feed(0x3b3b3b3b, 0x3b3b3b3b, 0x3b3b3b3b, 0x3b3b3b3b, 0x3b3b3b3b);
        C.same("1600 signs", x.disk(), -1);
        C.same("the first", x.fault(1), 0);
        for (int i = 0; i < 80; i++) x.feed(0x0a202020, 0x20202020, 0x20202020, 0x20202020, 0x20202020);
        C.same("1600 blanks", x.disk(), -1);
        C.same("the length", x.fault(1), 1600);
    }

    /** What former disks told is not told by the next one. */
    private static void asWithoutRaise() {
        DiskBudgets x = new DiskBudgets();
        for (int i = 0; i < 3; i++) {
            Checks.put(x, D + "budget 1 to 3;idle 1;slice 3;near 3;raise 9 for 500 rest 1;" + "process abcdef weight 9 from 9 does on take 9 think 9;");
            x.disk();
        }
        Checks.put(x, D + "process a weight 2 from 999 does on take 1 think 1;");
        x.disk();
        C.same("idle", x.has(8), 4);
        C.same("slice", x.has(9), 40);
        C.same("top", x.has(10), 64);
        C.same("budget", x.queue(0, 1), 36);
        C.same("letter", x.letter(0, 1), 0);
        Checks.go(x, 1000);
        C.same("asked", x.process(0, 5), 1);
        C.same("weight", x.queue(0, 8), 2);
        C.same("raised", x.queue(0, 7), 999);
        C.same("17 from 0 is far", x.ask(0, 17 + 1, 1) >= 0 && x.queue(0, 4) == 1, true);
        Checks.put(x, D + "process a weight 2 from 999 does on take 1 think 1;");
        x.disk();
        C.same("16 from 0 is near", x.ask(0, 16, 1) >= 0 && x.queue(0, 4) == 0, true);
    }

    private static void stays() {
        DiskBudgets x = Checks.disk(D + P + "on take 2 think 5;");
        x.seed(77);
        x.ticks(3);
        Checks.put(x, 1, 6);
        C.same("see", x.see(), 1);
        Checks.put(x, "disk 64 seek 1 rate 1;process a weight 1 from 0 does at 64");
        C.same("a fault", x.disk(), -1);
        C.same("its kind", x.fault(0), 2);
        C.same("its place", x.fault(1), 56);
        C.same("fault 2", x.fault(2), -1);
        C.same("fault -1", x.fault(-1), -1);
        C.same("status", x.status(1), 1);
        C.same("the tick stays", x.has(2), 3);
        C.same("processes stay", x.has(1), 1);
        C.same("kept stays", x.has(11), 0);
        C.same("seen stays", x.has(12), 1);
        C.same("acts stay", x.has(13), 1);
        C.same("the tape is gone", x.end(1), false);
        Checks.put(x, D);
        C.same("disk", x.disk(), 1);
        C.same("fault", x.fault(0), 0);
        C.same("no place", x.fault(1), -1);
        C.same("the tick", x.has(2), 0);
        C.same("processes", x.has(1), 0);
        C.same("seen", x.has(12), 0);
        C.same("acts", x.has(13), 0);
        C.same("the seed stays", x.has(14), 77);
        C.same("status stays", x.status(1), 1);
    }

    private static void good(String text, int statements) {
        DiskBudgets x = new DiskBudgets();
        Checks.put(x, text);
        C.same("disk() of " + text, x.disk(), statements);
        C.same("fault(0) of " + text, x.fault(0), 0);
        C.same("fault(1) of " + text, x.fault(1), -1);
    }

    private static void bad(String text, int kind, int place) {
        DiskBudgets x = new DiskBudgets();
        Checks.put(x, text);
        C.same("disk() of " + text, x.disk(), -1);
        C.same("fault(0) of " + text, x.fault(0), kind);
        C.same("fault(1) of " + text, x.fault(1), place);
        C.same("status(1) of " + text, x.status(1), 1);
    }
}
