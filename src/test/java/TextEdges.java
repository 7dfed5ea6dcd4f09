/** Boundary cases of promises 9 to 14: the tape, how many texts there are, and what a text lays. */
final class TextEdges {
    private final Edges e;

    TextEdges(Edges e) {
        this.e = e;
    }

    void all() {
        feedTheHighestFirst();
        feedBeyond300();
        feedOnACutTape();
        endOutside();
        endOfAnEmptyTape();
        textOfAnEmptyTape();
        textOf300Bytes();
        textEmptiesTheTape();
        textWithAFault();
        aFifthText();
        faultAheadOfAny();
        faultOutside();
        byOutside();
        byNone();
        laidByOthers();
        laidByNoClause();
        laidOnAFullColumn();
        laidBeyondTheLastColumn();
        laidOnAFallenStack();
    }

    private static int blanks(WoodStack x, int times) {
        int answer = 0;
        for (int i = 0; i < times; i++) {
            answer = x.feed(0x20202020, 0x20202020, 0x20202020, 0x20202020, 0x20202020);
        }
        return answer;
    }

    private void feedTheHighestFirst() {
        e.promise(9, "the highest of a first");
        WoodStack x = new WoodStack(2);
        for (int at = 0; at < 20; at++) {
            int[] five = {0x20202020, 0x20202020, 0x20202020, 0x20202020, 0x20202020};
            // A byte above 127 makes the number that bears it wrap below 0.
            five[at / 4] = five[at / 4] & ~(255 << 24 - at % 4 * 8) | 0xE9 << 24 - at % 4 * 8;
            x.feed(five[0], five[1], five[2], five[3], five[4]);
            e.due("a sign that is none at " + at, x.text(), -1);
            e.due("its place", x.fault(1), at);
        }
    }

    private void feedBeyond300() {
        e.promise(9, "NONE, and none come, if there would be more than 300.");
        WoodStack x = new WoodStack(2);
        e.due("14 times", blanks(x, 14), 280);
        e.due("just 300", blanks(x, 1), 300);
        e.due("twenty more", x.feed(-1, -1, -1, -1, -1), -1);
        e.due("it has 300", x.about(8), 300);
        e.due("they are as they were", x.text(), 0);
        e.due("none without", x.fault(0), 0);
    }

    private void feedOnACutTape() {
        e.promise(9, "NONE, and none come, if there would be more than 300.");
        for (int n : new int[] {281, 285, 299, 300}) {
            WoodStack x = new WoodStack(2);
            blanks(x, 15);
            x.end(n);
            e.due("behind " + n, x.feed(-1, -1, -1, -1, -1), -1);
            e.due("it has " + n, x.about(8), n);
        }
        WoodStack x = new WoodStack(2);
        blanks(x, 15);
        x.end(279);
        e.due("behind 279", blanks(x, 1), 299);
        x.end(280);
        e.due("behind 280", blanks(x, 1), 300);
        x.end(1);
        e.due("behind 1", blanks(x, 1), 21);
    }

    private void endOutside() {
        e.promise(10, "NONE, and nothing is done, if it has not so many, or n is below 0.");
        WoodStack x = new WoodStack(2);
        blanks(x, 15);
        for (int n : new int[] {Edges.LEAST, -300, -1, 301, 320, Edges.MOST}) {
            e.due("end(" + n + ")", x.end(n), -1);
            e.due("it has 300", x.about(8), 300);
        }
        e.due("all", x.end(300), 300);
        e.due("one less", x.end(299), 299);
        e.due("that one is gone", x.end(300), -1);
        e.due("none", x.end(0), 0);
        e.due("it has none", x.about(8), 0);
    }

    private void endOfAnEmptyTape() {
        e.promise(10, "The tape has its first n bytes alone: n.");
        WoodStack x = new WoodStack(2);
        e.due("0 of none", x.end(0), 0);
        e.due("1 of none", x.end(1), -1);
        Check.tape(x, "heat 12;heat 3;");
        e.due("cut within a token", x.end(6), 6);
        e.due("heat 1", x.text(), -1);
        e.due("the end is behind it", x.fault(1), 6);
        Check.tape(x, "heat 12;heat 3;");
        x.end(8);
        e.due("cut behind a clause", x.text(), 0);
    }

    private void textOfAnEmptyTape() {
        e.promise(11, "The tape (empty then) is a TEXT: its number.");
        WoodStack x = new WoodStack(2);
        x.lay(0, 0, 10, 500);
        e.due("of no bytes", x.text(), 0);
        e.due("without a fault", x.fault(0), 0);
        e.due("it may rule", x.by(0), true);
        e.due("and tells nothing", x.of(0, 0, 7), 200);
        e.due("of blanks", Check.read(x, " \n \n"), 1);
    }

    private void textOf300Bytes() {
        e.promise(11, "of up to 300 bytes");
        WoodStack x = new WoodStack(2);
        x.lay(0, 0, 10, 500);
        String text = "heat 1" + "+1".repeat(146) + " ;";
        e.due("its bytes", text.length(), 300);
        e.due("text()", Check.read(x, text), 0);
        x.by(0);
        e.due("all of it counts", x.of(0, 0, 7), 147);
        String open = "heat 1" + "+1".repeat(147);
        e.due("its bytes", open.length(), 300);
        e.due("text()", Check.read(x, open), -1);
        e.due("the end at the length", x.fault(1), 300);
        String blank = " ".repeat(299) + "!";
        Check.read(x, blank);
        e.due("the last byte of 300", x.fault(1), 299);
        Check.read(x, ";".repeat(300));
        e.due("300 signs", x.fault(1), 0);
        String word = "a".repeat(300);
        Check.read(x, word);
        e.due("a word of 300", x.fault(1), 0);
        Check.read(x, "heat " + "9".repeat(295));
        e.due("a number of 295 digits", x.fault(0), 2);
        Check.read(x, "heat " + "0".repeat(294) + ";");
        e.due("a number of 294 zeros", x.fault(0), 0);
    }

    private void textEmptiesTheTape() {
        e.promise(11, "The tape (empty then) is a TEXT");
        WoodStack x = new WoodStack(2);
        Check.read(x, "heat 1;");
        e.due("its bytes", x.about(8), 0);
        e.due("none can stay", x.end(1), -1);
        e.due("the next begins anew", x.feed(0x64727920, 0x313b2020, 0x20202020, 0x20202020, 0x20202020), 20);
        e.due("and is one of its own", x.text(), 1);
    }

    private void textWithAFault() {
        e.promise(11, "NONE: it has a FAULT");
        WoodStack x = new WoodStack(2);
        e.due("the first", Check.read(x, "heat;"), -1);
        e.due("none is there", x.about(3), 0);
        e.due("none can rule", x.by(0), false);
        e.due("the tape is empty", x.about(8), 0);
        e.due("the next is the first", Check.read(x, "heat 1;"), 0);
    }

    private void aFifthText() {
        e.promise(11, "or (the tape stays) there are 4");
        WoodStack x = new WoodStack(2);
        x.lay(0, 0, 10, 500);
        for (int i = 0; i < 3; i++) {
            e.due("its number", Check.read(x, "heat " + i + ";"), i);
        }
        x.image();
        e.due("the fourth", Check.read(x, "heat 3;"), 3);
        e.due("a fifth", Check.read(x, "heat 4;"), -1);
        e.due("its bytes stay", x.about(8), 7);
        e.due("four of them", x.about(3), 4);
        x.by(3);
        e.due("the fourth is as it was", x.of(0, 0, 7), 3);
        e.due("once more", x.text(), -1);
        x.back();
        e.due("room behind the third", x.text(), 3);
        x.by(3);
        e.due("it was the tape that stayed", x.of(0, 0, 7), 4);
        e.due("it is empty then", x.about(8), 0);
    }

    private void faultAheadOfAny() {
        e.promise(12, "NONE for others, and ahead of any.");
        WoodStack x = new WoodStack(2);
        e.due("fault(0)", x.fault(0), -1);
        e.due("fault(1)", x.fault(1), -1);
        Check.tape(x, "heat");
        e.due("a tape is no text", x.fault(0), -1);
        x.text();
        e.due("then", x.fault(0), 1);
        e.promise(12, "0 its FAULT (0 without), 1 its place (NONE without)");
        Check.read(x, "heat 1;");
        e.due("fault(0)", x.fault(0), 0);
        e.due("fault(1)", x.fault(1), -1);
    }

    private void faultOutside() {
        e.promise(12, "NONE for others");
        WoodStack x = new WoodStack(2);
        Check.read(x, "heat");
        for (int what : new int[] {Edges.LEAST, -1, 2, Edges.MOST}) {
            e.due("fault(" + what + ")", x.fault(what), -1);
        }
    }

    private void byOutside() {
        e.promise(13, "False for others.");
        WoodStack x = new WoodStack(2);
        x.lay(0, 0, 10, 500);
        e.due("0 of none", x.by(0), false);
        Check.read(x, "heat 1;");
        Check.read(x, "heat 2;");
        x.by(1);
        for (int text : new int[] {Edges.LEAST, -2, 2, 3, 4, Edges.MOST}) {
            e.due("by(" + text + ")", x.by(text), false);
            e.due("the text is as it was", x.about(4), 1);
            e.due("it rules", x.of(0, 0, 7), 2);
        }
    }

    private void byNone() {
        e.promise(13, "(NONE: none)");
        WoodStack x = new WoodStack(2);
        e.due("without texts", x.by(-1), true);
        x.by(Check.read(x, "stand 3;"));
        e.due("rules", x.stack(1), 3);
        e.due("none", x.by(-1), true);
        e.due("about(4)", x.about(4), -1);
        e.due("stands without", x.stack(1), 20);
    }

    private void laidByOthers() {
        e.promise(14, "-2 for others.");
        WoodStack x = Edges.fallen(3);
        e.due("0 of none", x.laid(0), -2);
        Check.read(x, "lay 0,1,1 on 0;");
        for (int text : new int[] {Edges.LEAST, -2, -1, 1, 4, Edges.MOST}) {
            e.due("laid(" + text + ")", x.laid(text), -2);
            e.due("what lies stays", x.stack(3), 3);
            e.due("and is fallen", x.stack(2), 1);
        }
    }

    private void laidByNoClause() {
        e.promise(14, "NONE: all is done");
        WoodStack x = new WoodStack(2);
        x.lay(0, 0, 1, 1);
        e.due("a text without lay", x.laid(Check.read(x, "heat 1;beetle 1=1;")), -1);
        e.due("nothing lies", x.stack(3), 0);
        e.due("twenty clauses", x.laid(Check.read(x, "lay 0,1,1on0;lay 0,1,1on1;".repeat(8) + "heat 1;dry 1;take 1;thick 1;")), -1);
        e.due("sixteen lie", x.stack(3), 16);
        e.due("once more", x.laid(1), -1);
        e.due("sixteen again", x.stack(3), 16);
    }

    private void laidOnAFullColumn() {
        e.promise(14, "else the number of the CLAUSE that can't be (what was done stays)");
        WoodStack x = new WoodStack(2);
        int text = Check.read(x, "heat 1;" + "lay 0,1,1on1;".repeat(8) + "beetle 1=1;lay 0,1,2on1;lay 0,1,1on0;");
        e.due("the ninth of a column", x.laid(text), 10);
        e.due("eight lie", x.stack(21), 8);
        e.due("none behind it", x.stack(20), 0);
        e.due("the eighth is as it was", x.of(1, 7, 2), 1);
    }

    private void laidBeyondTheLastColumn() {
        e.promise(14, "else the number of the CLAUSE that can't be");
        for (int w = 2; w <= 6; w++) {
            WoodStack x = new WoodStack(w);
            StringBuilder text = new StringBuilder();
            for (int column = 0; column < 6; column++) {
                text.append("lay 3,20,2000on").append(column).append(';');
            }
            e.due("of " + w + " columns", x.laid(Check.read(x, text.toString())), w == 6 ? -1 : w);
            e.due("those that can be", x.stack(3), w);
            e.due("the first of all can't", x.laid(Check.read(x, "lay 0,1,0on5;lay 0,1,0on0;")), w == 6 ? -1 : 0);
        }
    }

    private void laidOnAFallenStack() {
        e.promise(14, "THE STACK has nothing (it isn't FALLEN then)");
        WoodStack x = Edges.fallen(3);
        x.bark(0, 0, false);
        x.measure(0, 0, 1, 2);
        int text = Check.read(x, "lay 0,4,700 on 0;lay 0,1,1 on 2;");
        e.due("the second can't be", x.laid(text), 1);
        e.due("not fallen", x.stack(2), -1);
        e.due("one lies", x.stack(3), 1);
        e.due("bark up", x.of(0, 0, 3), 1);
        e.due("not measured", x.of(0, 0, 4), -1);
        e.due("the week goes on", x.about(1), 1);
        e.due("it can fall again", x.week(0), 2);
        e.due("since the second", x.stack(2), 2);
    }
}
