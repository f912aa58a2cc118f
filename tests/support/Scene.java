/** Objects that have something of everything, for calls that must leave it alone. */
final class Scene {
    private Scene() {
    }

    /** 0 is free with cord, 1 guarded, 2 caught, 3 stolen; there are marks, an image, refused calls, a fault. */
    static SpiderTales rich() {
        SpiderTales x = Check.of("creature 20 1 2 30 5;creature 5 0 0 50 3;creature 5 2 0 10 0;creature 5 0 0 60 0;"
                + "trick 0 0 1 0 8 3;trick 1 2 2 1 10 5;trick 4 0 0 3 0 20;hunter 20 100;hunter 5 40;tale 7;tale 6;"
                + "coins 60;rival 3;");
        x.attempt(3, 0);
        x.days(3);
        x.attempt(1, 0);
        x.mark(0, 2, 0, false);
        x.image();
        x.attempt(2, 0);
        x.guard(1);
        x.attempt(0, 0);
        x.tell(0, 3, true);
        x.mark(1, 2, 1, true);
        x.mark(0, 1, 1, true);
        x.give(0);
        x.give(0);
        x.mark(0, 5, 0, true);
        Check.read(x, "tale 5;tale;");
        return x;
    }

    /** The same with 40 bytes on the tape. */
    static SpiderTales richWithTape() {
        SpiderTales x = rich();
        Check.feed(x, "coins 123;tale 3;    ");
        return x;
    }

    /** Tricks that cost nothing: 0 lays 1, 1 lays 20, 2 never works, 3 lays none; each creature needs so much cord. */
    static SpiderTales of(int... strengths) {
        StringBuilder text = new StringBuilder("trick 0 0 0 0 1 0;trick 0 0 0 0 20 0;trick 32 32 0 0 1 0;trick 0 0 0 0 0 0;");
        for (int strength : strengths) {
            text.append("creature ").append(strength).append(" 0 0 0 0;");
        }
        return Check.of(text.toString());
    }

    static SpiderTales repeat(SpiderTales x, int many, int creature, int trick) {
        for (int i = 0; i < many; i++) {
            x.attempt(creature, trick);
        }
        return x;
    }
}
