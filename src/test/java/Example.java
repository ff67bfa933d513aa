public final class Example {
    /** Twenty bytes a call, of each number the highest first; then the tape is cut to the text's length. */
    static void put(DiskBudgets x, String text) {
        for (int from = 0; from < text.length(); from += 20) {
            int[] five = new int[5];
            for (int k = 0; k < 20; k++) {
                int c = from + k < text.length() ? text.charAt(from + k) : ' ';
                five[k / 4] = five[k / 4] << 8 | c;
            }
            x.feed(five[0], five[1], five[2], five[3], five[4]);
        }
        x.end(text.length());
    }

    static void say(String call, Object answer) {
        System.out.println(call + " answers " + answer);
    }

    public static void main(String[] args) {
        DiskBudgets x = new DiskBudgets();
        put(x, "disk 10 seek 100 rate 8;");
        say("disk() of a text with a fault", x.disk());
        say("fault(0), its kind,", x.fault(0));
        say("fault(1), its place,", x.fault(1));

        put(x, "disk 1000 seek 100 rate 8; idle 4;"
                + "process ann weight 1 from 0 does on take 4 think 1;"
                + "process bob weight 2 from 3 does at 500 take 8 think 2, on take 8 think 9;");
        say("disk(), how many statements,", x.disk());

        say("ticks(10), the tick then,", x.ticks(10));
        say("has(4), the active queue,", x.has(4));
        say("process(0, 10), sectors of ann,", x.process(0, 10));
        say("share(100, 0), hundredths ahead,", x.share(100, 0));
        say("has(2), the tick as it was,", x.has(2));

        say("ask(0, 998, 8), beyond the disk,", x.ask(0, 998, 8));
        say("weight(0, 5)", x.weight(0, 5));
        say("weight(0, 5), as it is,", x.weight(0, 5));
        say("status(3), refused so far,", x.status(3));
        say("share(100, 0) by that weight", x.share(100, 0));

        int bytes = x.image();
        say("image(), how many bytes,", bytes);
        StringBuilder image = new StringBuilder();
        for (int k = 0; k < bytes; k++) image.append((char) x.octet(k));
        say("undo(), of the weight,", x.undo());
        say("process(0, 0), her weight,", x.process(0, 0));
        put(x, image.toString());
        say("take(), of the image,", x.take());
        say("process(0, 0), her weight,", x.process(0, 0));
        say("has(2), the tick from the beginning on,", x.has(2));

        put(x, "" + (char) 9 + (char) 1);
        say("see(), behind 9 ticks bob's queue, rows,", x.see());
        say("fits(), which numbers idle, as bits,", x.fits());
    }
}
