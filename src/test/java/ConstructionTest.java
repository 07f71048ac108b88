/** Promise 1: construction. */
public final class ConstructionTest {
    private static final Check CHECK = new Check();

    public static void main(String[] args) {
        int[] wishes = {Integer.MIN_VALUE, -1, 0, 1, 2, 7, 8, 9, 100, Integer.MAX_VALUE};
        int[] slots = {1, 1, 1, 1, 2, 7, 8, 8, 8, 8};
        for (int i = 0; i < wishes.length; i++) {
            countSlots(wishes[i], slots[i]);
        }
        int[] rooms = {Integer.MIN_VALUE, -1, 0, 15, 16, 17, 64, 127, 128, 129, Integer.MAX_VALUE};
        int[] nodes = {16, 16, 16, 16, 16, 17, 64, 127, 128, 128, 128};
        for (int i = 0; i < rooms.length; i++) {
            countNodes(rooms[i], nodes[i]);
        }
        startsEmpty();
        objectsAreApart();
        CHECK.finish();
    }

    private static void countSlots(int wish, int due) {
        SuccessTyping s = new SuccessTyping(wish, 64);
        int count = 0;
        for (int f = -2; f < 12; f++) {
            if (s.atoms(f, 0) == 0) {
                count++;
            }
        }
        CHECK.due("slots of " + wish, count, due);
        CHECK.due("begin past the slots of " + wish, s.begin(due, 0), false);
        CHECK.due("begin of the last slot of " + wish, s.begin(due - 1, 0), true);
    }

    private static void countNodes(int wish, int due) {
        SuccessTyping s = new SuccessTyping(1, wish);
        s.begin(0, 0);
        int count = 0;
        for (int i = 0; i < 200; i++) {
            if (s.node(SuccessTyping.KIND_INT, 1, 0)) {
                count++;
            }
        }
        CHECK.due("capacity of " + wish, count, due);
    }

    private static void startsEmpty() {
        SuccessTyping s = new SuccessTyping(8, 128);
        CHECK.due("building()", s.building(), -1);
        CHECK.due("pending()", s.pending(), 0);
        CHECK.due("analyzed()", s.analyzed(), false);
        CHECK.due("result()", s.result(), 0);
        for (int f = 0; f < 8; f++) {
            CHECK.due("arity(" + f + ")", s.arity(f), -1);
            CHECK.due("bodySize(" + f + ")", s.bodySize(f), -1);
            CHECK.due("nodeAt(" + f + ", 0)", s.nodeAt(f, 0), -1);
            CHECK.due("run(" + f + ", 0, 0)", s.run(f, 0, 0), SuccessTyping.RUN_REFUSED);
            for (int which = 0; which < 3; which++) {
                CHECK.empty(s, f, which);
            }
        }
    }

    private static void objectsAreApart() {
        SuccessTyping one = new SuccessTyping(2, 16);
        SuccessTyping two = new SuccessTyping(2, 16);
        String before = Snapshot.of(two);
        Bodies.define(CHECK, one, 0, 1, "v0 i1 +");
        one.analyze();
        one.run(0, 5, 0);
        CHECK.due("the other object", Snapshot.of(two), before);
    }
}
