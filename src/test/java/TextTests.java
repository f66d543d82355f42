/** Promises 10 to 13. */
final class TextTests {
    private TextTests() {
    }

    static void run() {
        append();
        clearBuffer();
        firstError();
        everyNumber();
        follow();
        followRefused();
    }

    private static void append() {
        SparrowRace r = new SparrowRace();
        Check.due("append 33", r.append(33), 1);
        Check.due("append 126", r.append(126), 2);
        Check.badArgument("append 32", r, () -> r.append(32));
        Check.badArgument("append 127", r, () -> r.append(127));
        Check.badArgument("append -1", r, () -> r.append(-1));
        Check.badArgument("append 112 + 65536", r, () -> r.append(112 + 65536));
        for (int i = 3; i <= 60; i++) {
            Check.due("append number " + i, r.append('p'), i);
        }
        Check.badState("append to a full buffer", r, () -> r.append('p'));
        Check.badArgument("append to a full buffer, wrong", r, () -> r.append(32));
        Check.due("append saves nothing", r.savedStates(), 0);
    }

    private static void clearBuffer() {
        SparrowRace r = new SparrowRace();
        Check.due("clear an empty one", r.clearBuffer(), 0);
        Races.type(r, "p0=10");
        Check.due("clear", r.clearBuffer(), 5);
        Check.due("clear again", r.clearBuffer(), 0);
        Check.due("append then", r.append('t'), 1);
        Check.due("saves nothing", r.savedStates(), 0);
    }

    private static void error(String text, int due) {
        SparrowRace r = new SparrowRace();
        Races.type(r, text);
        Check.due("firstError of " + text, r.firstError(), due);
    }

    private static void firstError() {
        String[] whole = {"p0=10", "p7=40", "n0", "n7", "c0=8", "c3=40", "c1=9", "c2=39", "t1", "t200", "t199",
            "n0;n1;t9;p3=33;c0=10"};
        for (String text : whole) {
            error(text, text.length());
        }
        String[] begun = {"", "p", "p0", "p0=", "p0=1", "n", "c", "c3=4", "t", "t2", "n0;", "t200;"};
        for (String text : begun) {
            error(text, text.length());
        }
        Object[][] wrong = {{"x", 0}, {";", 0}, {"0", 0}, {"p8", 1}, {"n8", 1}, {"c4", 1}, {"px", 1}, {"t0", 1},
            {"p0;", 2}, {"p01", 2}, {"n0=", 2}, {"n00", 2}, {"p0=0", 3}, {"p0=5", 3}, {"p0=9", 3}, {"p0=;", 3},
            {"p0=1;", 4}, {"p0=41", 4}, {"p0=100", 5}, {"p0=10t", 5}, {"c0=7", 3}, {"c0=5", 3}, {"c0=0", 3},
            {"c0=80", 4}, {"c0=41", 4}, {"c0=3;", 4}, {"t;", 1}, {"t201", 3}, {"t21;", 4}, {"t210", 3},
            {"t300", 3}, {"t1000", 4}, {"n0;;", 3}, {"n0;x", 3}, {"n0;p8", 4}, {"N0", 0}, {"p/", 1}, {"p0=1:", 4}};
        for (Object[] w : wrong) {
            int due = w[0].equals("t21;") ? 4 : (int) w[1];
            error((String) w[0], due);
        }
        error("x;n0;y", 0);
        StringBuilder full = new StringBuilder();
        while (full.length() < 60) {
            full.append("n0;");
        }
        error(full.toString(), 60);
    }

    private static void everyNumber() {
        for (int number = 0; number <= 420; number++) {
            whole("p0=", number, 10, 40);
            whole("c0=", number, 8, 40);
            whole("t", number, 1, 200);
        }
    }

    private static void whole(String head, int number, int least, int most) {
        SparrowRace r = Races.begun(10, 100, 0);
        Races.type(r, head + number);
        boolean follows = true;
        try {
            r.follow();
        } catch (IllegalArgumentException e) {
            follows = false;
        }
        Check.due(head + number + " is an order", follows, number >= least && number <= most);
    }

    private static void follow() {
        SparrowRace r = Races.begun(10, 999, 0, 20, 999, 1);
        Races.type(r, "p1=30;n0;c2=9;t2;t1");
        Check.due("follow", r.follow(), 5);
        Check.due("the pace", r.paceOf(1), 30);
        Check.due("called in", r.isCalledIn(0), true);
        Check.due("the limit", r.limitOf(2), 9);
        Check.due("the seconds", r.seconds(), 3);
        Check.due("flown", r.flown(0), 30);
        Check.due("the buffer is clear", r.clearBuffer(), 0);
        Races.type(r, "n0;n0;n0");
        String before = Looks.state(r);
        int saved = r.savedStates();
        Check.due("follow three", r.follow(), 3);
        Check.due("called in no longer", r.isCalledIn(0), false);
        Check.due("one state is saved", r.savedStates(), saved + 1);
        r.undo();
        Check.due("undone at once", Looks.state(r), before);
        Check.due("the buffer stays clear", r.clearBuffer(), 0);
        SparrowRace calm = Races.with(10, 999, 0);
        Races.type(calm, "p0=11;c0=8");
        Check.due("follow without a race", calm.follow(), 2);
    }

    private static void followRefused() {
        SparrowRace r = Races.with(10, 999, 0);
        String[] noOrders = {"", "p", "n0;", "p0=1", "x", "n0;;n0", "t201", "p1=1", "n9"};
        for (String text : noOrders) {
            Races.type(r, text);
            Check.badArgument("follow " + text, r, r::follow);
        }
        String[] noBird = {"p1=10", "n1", "n0;n7", "p0=20;n0;p7=20", "t1", "n0;t1"};
        for (String text : noBird) {
            Races.type(r, text);
            Check.badState("follow " + text, r, r::follow);
            Check.due("the buffer stays", r.clearBuffer(), text.length());
        }
        Races.type(r, "n1;x");
        Check.badArgument("follow what is wrong in both ways", r, r::follow);
        r.begin();
        Races.type(r, "p0=20;t200;t1");
        Check.badState("no race goes on at the turn of the last one", r, r::follow);
        Races.type(r, "t200;n0");
        Check.badState("it has arrived at the turn of the last one", r, r::follow);
        Races.type(r, "t200;p0=33");
        Check.due("the pace of one that has arrived", r.follow(), 2);
    }
}
