/** The edges of the promises 14 to 16. */
public final class WhatIfEdgesTest extends Edges {
    private static final int[] NO_CONTEXTS = {-1, 8, Integer.MIN_VALUE, Integer.MAX_VALUE};
    /** Behind it comes what is to happen in slot 990 and later. */
    private static final String SLEEPS = "w99,w99,w99,w99,w99,w99,w99,w99,w99,w99";

    public static void main(String[] args) {
        begin("WhatIfEdgesTest");
        nothingChanges();
        slotsLeftOfNothing();
        slotsLeftByThousand();
        slotsLeftNever();
        slotsLeftAsRunTells();
        leftIfByThousand();
        leftIfOfOneAlone();
        leftIfOfTheSame();
        leftIfErrors();
        sumBehindSlots();
        sumBehindErrors();
        beyondTheLimit();
        checks.end();
    }

    private static TurnSlots some() {
        TurnSlots x = machine("0:a9,b1,s1,l0,w5,t", "1:t,l0,a3", "2:w9,a3,f0,s1", "3:l0");
        x.prefer(2, 4);
        x.post(0, 7);
        x.step(9);
        Checks.write(x, "7:a1,");
        return x;
    }

    private static void nothingChanges() {
        sentence("the public face", "what if; nothing changes");
        TurnSlots got = some();
        got.slotsLeft();
        got.leftIf(1, 2, 9);
        got.leftIf(0, 0, 9);
        got.leftIf(2, 1, 0);
        got.sumBehind(1, 200);
        got.sumBehind(0, 1);
        got.leftIf(0, 1, 10);
        same("behind what if", got, some());
        sameHistory("behind what if", got, some());
        TurnSlots asked = some();
        TurnSlots other = some();
        for (int i = 0; i < 40; i++) {
            asked.leftIf(0, 2, i % 10);
            due("step behind what if", asked.step(1), other.step(1));
            due("sum behind what if", sum(asked, 1), sum(other, 1));
        }
    }

    private static void slotsLeftOfNothing() {
        sentence("Promise 14", "Tells how many slots would pass until all contexts are done, if nothing else happens.");
        TurnSlots x = new TurnSlots();
        due("nothing to do", x.slotsLeft(), 0);
        x.step(200);
        due("nothing to do later", x.slotsLeft(), 0);
        x.add(0, ADD, 1);
        due("one command", x.slotsLeft(), 1);
        x.add(0, WAIT, 99);
        due("a last WAIT is not waited for", x.slotsLeft(), 2);
        x.step(2);
        due("all done though one sleeps", x.slotsLeft(), 0);
        x.add(0, ADD, 1);
        due("a command behind the WAIT", x.slotsLeft(), 99);
    }

    private static void slotsLeftByThousand() {
        sentence("Promise 14", "NONE if they would not be done behind 1000 slots");
        due("999", machine("0:" + SLEEPS + ",w8,a1").slotsLeft(), 999);
        due("1000", machine("0:" + SLEEPS + ",w9,a1").slotsLeft(), 1000);
        TurnSlots x = machine("0:" + SLEEPS + ",w10,a1");
        due("1001", x.slotsLeft(), NONE);
        x.step(1);
        due("1001 less one", x.slotsLeft(), 1000);
        x.undo();
        due("1001 again", x.slotsLeft(), NONE);
        due("one of two", machine("0:a1", "7:" + ENDLESS).slotsLeft(), NONE);
    }

    private static void slotsLeftNever() {
        sentence("Promise 14", "NONE if they would not be done behind 1000 slots");
        TurnSlots x = machine("0:a1", "1:t");
        due("one waits for nobody", x.slotsLeft(), NONE);
        due("run until it is stuck", x.run(), 1);
        due("stuck", x.slotsLeft(), NONE);
        x.post(1, 1);
        due("not stuck", x.slotsLeft(), 1);
        due("a ring", machine("0:t,s1", "1:t,s0").slotsLeft(), NONE);
        due("a lock of one that is done", machine("0:l0", "1:w9,l0").slotsLeft(), NONE);
    }

    private static void slotsLeftAsRunTells() {
        sentence("Promise 14", "Tells how many slots would pass until all contexts are done, if nothing else happens.");
        TurnSlots x = machine("0:l0,w9,f0,b3,a1", "1:l0,a5,f0", "2:t,a1", "3:a7,w20,s2");
        x.prefer(1, 3);
        int left = x.slotsLeft();
        yes("some slots", left > 20);
        due("as run tells", x.run(), left);
        due("all done", x.count(1), 8);
    }

    private static void leftIfByThousand() {
        sentence("Promise 15", "NONE if it would not be done behind 1000 slots");
        due("999", machine("0:" + SLEEPS + ",w8,a1").leftIf(0, 1, 9), 999);
        due("1000", machine("0:" + SLEEPS + ",w9,a1").leftIf(0, 1, 9), 1000);
        due("1001", machine("0:" + SLEEPS + ",w10,a1").leftIf(0, 1, 9), NONE);
        TurnSlots x = machine("0:t", "1:a1");
        due("never", x.leftIf(0, 1, 9), NONE);
        due("another one", x.leftIf(1, 0, 9), 1);
    }

    private static void leftIfOfOneAlone() {
        sentence("Promise 15", "Tells how many slots would pass until a context is done");
        TurnSlots x = machine("0:t", "3:a1,a1", "5:" + ENDLESS);
        due("one that is done", x.leftIf(7, 0, 9), 0);
        due("one that is done soon", x.leftIf(3, 3, 9), 2);
        due("one that comes behind", x.leftIf(3, 5, 9), 3);
        due("one that is not done", x.leftIf(5, 5, 9), NONE);
        TurnSlots y = machine("3:a1,w50", "4:a1");
        due("its last WAIT is not waited for", y.leftIf(3, 3, 0), 2);
    }

    private static void leftIfOfTheSame() {
        sentence("Promise 15", "if a context (perhaps another one) had another priority of its own");
        TurnSlots x = machine("4:a1,a1,a1", "5:a1,a1,a1");
        due("5 as it is", x.leftIf(5, 5, 0), 6);
        due("5 with 1", x.leftIf(5, 5, 1), 3);
        due("5 with 9", x.leftIf(5, 5, 9), 3);
        due("4 when 5 has 9", x.leftIf(4, 5, 9), 6);
        due("4 when 5 has 0", x.leftIf(4, 5, 0), 3);
        due("one without commands has 9", x.leftIf(4, 0, 9), 3);
        x.prefer(5, 9);
        due("5 when 4 has 9", x.leftIf(5, 4, 9), 6);
        due("5 when it has 0", x.leftIf(5, 5, 0), 6);
        due("its priority stays", x.of(5, 3), 9);
        TurnSlots y = machine("1:l0,a1,a1,a1,a1,a1,f0", "2:w0,w0,w0,w0,w0,w0,w0,w0,w0", "3:l0");
        y.step(2);
        due("1 holds it", y.holder(0), 1);
        due("3 waits without a priority, and 2 comes first", y.leftIf(3, 3, 0), 10);
        due("a lent priority brings it on", lentBringsOn(), 1);
    }

    private static int lentBringsOn() {
        TurnSlots x = machine("1:l0,a1,a1,a1,a1,f0", "2:a1,a1,a1,a1,a1,a1,a1,a1,a1", "3:l0");
        x.step(2);
        x.prefer(2, 5);
        return x.leftIf(3, 3, 6) < x.leftIf(3, 3, 4) ? 1 : 0;
    }

    private static void leftIfErrors() {
        sentence("Promise 15", "NO_SUCH if there is no such context; BAD_VALUE if priority is out of range");
        TurnSlots x = machine("0:a1");
        for (int context : NO_CONTEXTS) {
            due("context " + context, x.leftIf(context, 0, 0), NO_SUCH);
            due("other " + context, x.leftIf(0, context, 0), NO_SUCH);
            due("both " + context, x.leftIf(context, context, 10), NO_SUCH);
        }
        for (int priority : new int[] {-1, 10, Integer.MIN_VALUE, Integer.MAX_VALUE}) {
            due("priority " + priority, x.leftIf(0, 7, priority), BAD_VALUE);
            due("priority " + priority + " for one that is done", x.leftIf(7, 7, priority), BAD_VALUE);
        }
        due("0", x.leftIf(0, 7, 0), 1);
        due("9", x.leftIf(0, 7, 9), 1);
        due("of 7", x.leftIf(7, 0, 9), 0);
    }

    private static void sumBehindSlots() {
        sentence("Promise 16", "Tells the sum that a context would have behind some slots.");
        TurnSlots x = machine("4:a1,w98,a2,w98,a4,a8");
        due("1", x.sumBehind(4, 1), 1);
        due("2", x.sumBehind(4, 2), 1);
        due("99", x.sumBehind(4, 99), 1);
        due("100", x.sumBehind(4, 100), 3);
        due("198", x.sumBehind(4, 198), 3);
        due("199", x.sumBehind(4, 199), 7);
        due("200", x.sumBehind(4, 200), 15);
        due("another one", x.sumBehind(3, 200), 0);
        TurnSlots y = machine("0:t,a1");
        y.post(0, 999);
        due("999", y.sumBehind(0, 1), 999);
        due("left over by 1000", y.sumBehind(0, 2), 0);
        due("all done, all the more slots", y.sumBehind(0, 200), 0);
    }

    private static void sumBehindErrors() {
        sentence("Promise 16", "NO_SUCH if there is no such context; BAD_VALUE if slots is out of range");
        TurnSlots x = new TurnSlots();
        for (int context : NO_CONTEXTS) {
            due("context " + context, x.sumBehind(context, 1), NO_SUCH);
        }
        for (int slots : new int[] {0, -1, 201, Integer.MIN_VALUE, Integer.MAX_VALUE}) {
            due("slots " + slots, x.sumBehind(0, slots), BAD_VALUE);
        }
        due("1", x.sumBehind(0, 1), 0);
        due("200", x.sumBehind(7, 200), 0);
    }

    private static void beyondTheLimit() {
        sentence("Promise 14", "Tells how many slots would pass until all contexts are done, if nothing else happens.");
        TurnSlots x = aged(100);
        Checks.give(x, "7:a1,w98,a2,w98,a4,a8");
        due("slots have passed", x.count(0), 100000);
        due("slots left", x.slotsLeft(), 200);
        due("left if", x.leftIf(7, 0, 9), 200);
        due("sum behind 200", x.sumBehind(7, 200), 15);
        due("though none can pass", x.step(1), TOO_MANY);
    }
}
