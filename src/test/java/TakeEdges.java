/** Boundary cases of promise 18: how many are taken, and which of like ones. */
final class TakeEdges {
    private final Edges e;

    TakeEdges(Edges e) {
        this.e = e;
    }

    void all() {
        takeOutside();
        notSoMany();
        allOfThem();
        likeOnes();
        likeOnesOfAFallenStack();
        theHighestOfEach();
        comeDown();
        allOfAFallenStack();
        farBelow();
    }

    private void takeOutside() {
        e.promise(18, "So many are TAKEN (1 .. 48)");
        WoodStack x = Edges.full(6);
        for (int n : new int[] {Edges.LEAST, -48, -1, 0, 49, 50, 256 + 1, Edges.MOST}) {
            e.due("take(" + n + ")", x.take(n), -1);
            e.due("all are there", x.stack(3), 48);
        }
        e.due("one", x.take(1), 200);
        e.due("47 are there", x.stack(3), 47);
    }

    private void notSoMany() {
        e.promise(18, "if there are not so many (nothing is TAKEN then)");
        WoodStack x = new WoodStack(2);
        e.due("one of none", x.take(1), -1);
        x.lay(0, 0, 10, 500);
        x.lay(1, 0, 10, 500);
        e.due("three of two", x.take(3), -1);
        e.due("48 of two", x.take(48), -1);
        e.due("two are there", x.stack(3), 2);
        e.due("two of two", x.take(2), 400);
        e.due("one more", x.take(1), -1);
    }

    private void allOfThem() {
        e.promise(18, "HEAT of all");
        WoodStack x = Check.ruled(6, "heat 9999;");
        for (int i = 0; i < 48; i++) {
            x.lay(i % 6, 0, 1, 1);
        }
        e.due("48 of 48", x.take(48), 48 * 9999);
        e.due("none is there", x.stack(3), 0);
    }

    private void likeOnes() {
        e.promise(18, "of like ones the lowest COLUMN, then the lowest z");
        WoodStack x = new WoodStack(6);
        for (int i = 0; i < 12; i++) {
            x.lay(i % 6, 0, 1, 500);
        }
        for (int column = 0; column < 6; column++) {
            x.take(1);
            e.due("the first from column " + column, x.stack(20 + column), 1);
            x.take(1);
            e.due("the second from column " + column, x.stack(20 + column), 0);
        }
    }

    private void likeOnesOfAFallenStack() {
        e.promise(18, "of like ones the lowest COLUMN, then the lowest z");
        WoodStack x = Check.ruled(2, "stand 0;take 0;dry 0;");
        x.weather(0, 0, 0, 0);
        for (int z = 0; z < 3; z++) {
            x.lay(1, 0, 1 + z, 500);
        }
        x.lay(0, 0, 20, 500);
        x.week(0);
        e.due("column 0", x.take(1), 400);
        for (int z = 0; z < 3; z++) {
            e.due("z 0, time " + z, x.take(1), 20 * (1 + z));
        }
    }

    private void theHighestOfEach() {
        e.promise(18, "(the highest of each COLUMN; all if FALLEN)");
        WoodStack x = new WoodStack(3);
        x.lay(1, 0, 10, 0);
        x.lay(1, 0, 10, 2000);
        x.lay(2, 0, 10, 1999);
        e.due("not one that lies below", x.take(1), 50);
        e.due("column 2", x.stack(22), 0);
        e.due("then the wet one, then the dry one", x.take(2), 50 + 250);
        WoodStack y = new WoodStack(2);
        y.weather(0, 0, 0, 0);
        y.lay(1, 0, 20, 0);
        y.lay(1, 0, 20, 2000);
        y.week(0);
        e.due("fallen: one that lies below", y.take(1), 500);
    }

    private void comeDown() {
        e.promise(18, "those above it come down");
        WoodStack x = Check.ruled(2, "stand 0;dry 0;take -size;heat size;");
        x.weather(0, 0, 0, 0);
        for (int z = 0; z < 8; z++) {
            x.lay(1, z % 4, z == 3 ? 1 : 10 + z, 100 + z);
        }
        x.bark(1, 7, false);
        x.measure(1, 7, 5, 6);
        x.week(0);
        e.due("the fourth", x.take(1), 1);
        e.due("seven", x.stack(21), 7);
        for (int z = 0; z < 7; z++) {
            e.due("water of " + z, x.of(1, z, 2), z < 3 ? 100 + z : 101 + z);
            e.due("kind of " + z, x.of(1, z, 0), (z < 3 ? z : z + 1) % 4);
        }
        e.due("bark of the last", x.of(1, 6, 3), 0);
        e.due("low of the last", x.of(1, 6, 4), 5);
        e.due("no eighth", x.of(1, 7, 0), -1);
        e.due("bark of the one below it", x.of(1, 5, 3), 1);
    }

    private void allOfAFallenStack() {
        e.promise(18, "all if FALLEN");
        WoodStack x = Edges.fallen(8);
        e.due("nine of eight", x.take(9), -1);
        e.due("eight are there", x.stack(3), 8);
        e.due("eight of eight", x.take(8) > 0, true);
        e.due("none is there", x.stack(3), 0);
        e.due("one more", x.take(1), -1);
    }

    private void farBelow() {
        e.promise(18, "that for which take is greatest (without: - WATER)");
        WoodStack x = Check.ruled(2, "take -9999*9999;");
        x.lay(1, 0, 10, 500);
        e.due("the least that a sum can be", x.take(1), 200);
        WoodStack y = new WoodStack(2);
        y.lay(1, 0, 10, 2000);
        e.due("the wettest of all", y.take(1), 50);
    }
}
