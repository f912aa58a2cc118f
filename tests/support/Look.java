/** All that can be seen of an object by calls that change nothing, and then of what undo() and restore() bring back. */
final class Look {
    private Look() {
    }

    private static void add(StringBuilder seen, int answer) {
        seen.append(answer).append(' ');
    }

    /** What the text told, but for the rule, which is seen by plans alone. */
    private static void told(SpiderTales x, StringBuilder seen) {
        for (int what = 0; what <= 3; what++) {
            add(seen, x.count(what));
        }
        int tricks = x.count(1);
        for (int t = 0; t < tricks; t++) {
            for (int what = 0; what <= 5; what++) {
                add(seen, x.trick(t, what));
            }
        }
        int tales = x.count(3);
        for (int t = 0; t < tales; t++) {
            add(seen, x.alone(t));
        }
        add(seen, x.offer(0, 0));
    }

    private static void acted(SpiderTales x, StringBuilder seen) {
        for (int what = 4; what <= 12; what++) {
            add(seen, x.count(what));
        }
        int[] changing = {1, 2, 5};
        int creatures = x.count(0);
        for (int c = 0; c < creatures; c++) {
            for (int what : changing) {
                add(seen, x.creature(c, what));
            }
        }
        seen.append("; ");
    }

    private static void marked(SpiderTales x, StringBuilder seen) {
        int creatures = x.count(0);
        for (int c = 0; c < creatures; c++) {
            for (int tries = 1; tries <= 4; tries++) {
                add(seen, x.how(c, tries, 0));
            }
        }
        seen.append("; ");
    }

    /** Of many acts not each is looked at: an object has 512 calls. */
    private static void undone(SpiderTales x, StringBuilder seen) {
        int left = 0;
        for (int i = 0; left != SpiderTales.NONE; i++) {
            if (i < 8 || left % 8 == 0) {
                acted(x, seen);
            }
            left = x.undo();
            add(seen, left);
        }
    }

    /** The object is used up by this. */
    static String whole(SpiderTales x) {
        StringBuilder seen = new StringBuilder();
        told(x, seen);
        marked(x, seen);
        undone(x, seen);
        seen.append(x.restore()).append(' ');
        marked(x, seen);
        undone(x, seen);
        return seen.toString();
    }

    /** What lies on the tape, read as a text; the object is used up by this. */
    static String tape(SpiderTales x) {
        StringBuilder seen = new StringBuilder();
        add(seen, x.fault());
        add(seen, x.count(13));
        add(seen, x.sky(x.count(13)));
        add(seen, x.fault());
        told(x, seen);
        return seen.toString();
    }

    static String status(SpiderTales x) {
        return x.count(14) + " " + x.count(15) + " " + x.count(16);
    }
}
