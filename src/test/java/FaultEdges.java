/** Boundary cases of promises 11 and 12: where a text stops being one, and how far its numbers go. */
final class FaultEdges {
    private static final String[] SUMS = {"dry", "thick", "stand", "take", "heat"};
    private final Edges e;

    FaultEdges(Edges e) {
        this.e = e;
    }

    void all() {
        everyByte();
        blanks();
        theLongest();
        wholeWords();
        theEnd();
        theFirstFault();
        theLeastFault();
        numbers();
        numbersOfLay();
        nineOpen();
        nineOpenByTurns();
        closedAgain();
        openFromTheirParenthesisOn();
        eachOnce();
        namesOfEach();
        twentyClauses();
        byZero();
        aboveAMillion();
        belowTheSameLess();
    }

    /** Holds the fault of a text and its place; 0 for one without. */
    private void read(String text, int fault, int place) {
        WoodStack x = new WoodStack(2);
        String shown = text.replace("\n", "\\n");
        e.due("text() of " + shown, Check.read(x, text), fault == 0 ? 0 : -1);
        e.due("fault(0) of " + shown, x.fault(0), fault);
        e.due("fault(1) of " + shown, x.fault(1), fault == 0 ? -1 : place);
    }

    private void right(String text) {
        read(text, 0, -1);
    }

    private void everyByte() {
        e.promise(11, "1 it can't stand there, or is none");
        for (int sign = 0; sign < 256; sign++) {
            String text = "heat 1" + (char) sign + "1;";
            if (sign >= '0' && sign <= '9' || "+-*/".indexOf(sign) >= 0) {
                right(text);
            } else if (sign == ' ' || sign == '\n' || sign == ';') {
                read(text, 1, 7);
            } else {
                read(text, 1, 6);
            }
        }
    }

    private void blanks() {
        e.promise(11, "blanks (32, 10) aside");
        right(" \n heat \n 1 \n ; \n ");
        right("heat\n1;");
        read("heat\t1;", 1, 4);
        read("heat\r1;", 1, 4);
        read("heat" + (char) 160 + "1;", 1, 4);
        read("he at 1;", 1, 0);
        read("heat 1 2;", 1, 7);
        read("beetle 1< =2;", 1, 10);
    }

    private void theLongest() {
        e.promise(11, "(the longest)");
        right("beetle 1<=2;beetle 1>=2;");
        read("beetle 1<==2;", 1, 10);
        read("beetle 1=<2;", 1, 9);
        read("beetle 1=>2;", 1, 9);
        read("beetle 1<", 1, 9);
        read("beetle 1<=", 1, 10);
        read("beetle 1>", 1, 9);
        read("heat 1<=2;", 1, 6);
    }

    private void wholeWords() {
        e.promise(11, "letters a .. z, A .. Z one behind the other (one TOKEN)");
        read("heats 1;", 1, 0);
        read("hea 1;", 1, 0);
        read("Heat 1;", 1, 0);
        read("heaT 1;", 1, 0);
        read("heatsize;", 1, 0);
        read("heat Size;", 1, 5);
        read("heat siz;", 1, 5);
        read("heat sizes;", 1, 5);
        read("heat zA;", 1, 5);
        right("heat1;");
        right("lay0,1,1on0;");
        read("lay0,1,1o n0;", 1, 8);
        read("beetle not1=1;not", 1, 14);
        read("heat 1size;", 1, 6);
    }

    private void theEnd() {
        e.promise(12, "(of the end at the length)");
        String[] cut = {"dry", "heat ", "heat 1", "heat 1 \n", "heat (1", "heat min", "heat min(1,", "beetle 1", "beetle 1=", "beetle not",
            "beetle 1=1 and", "lay", "lay 0", "lay 0,", "lay 0,1,", "lay 0,1,0", "lay 0,1,0 on", "lay 0,1,0 on 0", "heat -", "heat 1;dry"};
        for (String text : cut) {
            read(text, 1, text.length());
        }
    }

    private void theFirstFault() {
        e.promise(12, "the first as TOKENS are come to");
        read("heat 10000 10000 !", 2, 5);
        read("heat wide;wet", 5, 5);
        read("heat 1 wide", 1, 7);
        read("heat 1;heat 10000", 4, 7);
        read("lay 4,0,0 on 9;", 2, 4);
        read("heat (((((((((wide", 3, 13);
        read("heat ((((((((wide", 5, 13);
        read("! heat", 1, 0);
    }

    private void theLeastFault() {
        e.promise(12, "of one the least");
        String twenty = "heat 1;" + "beetle 1=1;".repeat(19);
        read(twenty + "heat", 4, twenty.length());
        read(twenty + "take", 6, twenty.length());
        read(twenty + "size", 1, twenty.length());
        read(twenty + "!", 1, twenty.length());
        read("heat 1 99999;", 1, 7);
        read("lay 0 10000", 1, 6);
        read("lay 0,1,0 10000", 1, 10);
        read("heat ((((((((1(", 1, 14);
        read("heat heat;", 1, 5);
        read("lay wide", 1, 4);
    }

    private void numbers() {
        e.promise(12, "2 a NUMBER that isn't one of those told (above 9999;");
        right("heat 0;");
        right("heat 9999;");
        read("heat 10000;", 2, 5);
        right("heat 0009999;");
        read("heat 0010000;", 2, 5);
        read("heat 2147483648;", 2, 5);
        read("heat 4294967297;", 2, 5);
        read("heat 18446744073709551617;", 2, 5);
        read("heat 1+(65536)", 2, 8);
        read("beetle 1=10000;", 2, 9);
        read("heat min(10000", 2, 9);
    }

    private void numbersOfLay() {
        e.promise(12, "of lay KIND, SIZE, WATER, COLUMN 0 .. 5)");
        right("lay 0,1,0 on 0;");
        right("lay 3,20,2000 on 5;");
        right("lay 003,0020,002000 on 05;");
        read("lay 4,1,0 on 0;", 2, 4);
        read("lay 0,0,0 on 0;", 2, 6);
        read("lay 0,21,0 on 0;", 2, 6);
        read("lay 0,1,2001 on 0;", 2, 8);
        read("lay 0,1,0 on 6;", 2, 13);
        read("lay 0,1,4294967296 on 0;", 2, 8);
        read("lay -1,1,0 on 0;", 1, 4);
    }

    private void nineOpen() {
        e.promise(12, "3 the 9th of ( not and - (of one ONE) that are open around one another");
        right("heat " + "(".repeat(8) + "1" + ")".repeat(8) + ";");
        read("heat " + "(".repeat(9) + "1" + ")".repeat(9) + ";", 3, 13);
        right("heat " + "-".repeat(8) + "1;");
        read("heat " + "-".repeat(9) + "1;", 3, 13);
        right("beetle " + "not ".repeat(8) + "1=1;");
        read("beetle " + "not ".repeat(9) + "1=1;", 3, 7 + 32);
        right("heat " + "min(1,".repeat(8) + "1" + ")".repeat(8) + ";");
        read("heat " + "min(1,".repeat(9) + "1", 3, 5 + 48 + 3);
        read("heat " + "max(".repeat(9) + "1", 3, 5 + 32 + 3);
        read("heat " + "(".repeat(295), 3, 13);
        read("heat " + "-".repeat(295), 3, 13);
        read("beetle " + "not ".repeat(70), 3, 39);
    }

    private void nineOpenByTurns() {
        e.promise(12, "that are open around one another");
        right("beetle not not (-(-(-1)))=1;");
        read("beetle not not (-(-(-(1))))=1;", 3, 21);
        right("beetle not not 1=(-(-(-1)));");
        read("beetle not not 1=(-(-(-(1))));", 3, 23);
        right("beetle not not not min(-max(1,-(1)),1)=1;");
        read("beetle not not not min(-max(1,-(-(1))),1)=1;", 3, 32);
        right("beetle not not not not not not not -1=1 or not not not not not not not -1=1;");
    }

    private void closedAgain() {
        e.promise(12, "that are open around one another");
        right("heat " + "(1)+".repeat(20) + "1;");
        right("heat " + "-1-".repeat(20) + "1;");
        right("heat " + "1-".repeat(20) + "1;");
        right("beetle " + "not 1=1 and ".repeat(12) + "not 1=1;");
        right("heat ((((((((1)))))))+(1));");
        right("heat -------(1)+--------1;");
        right("heat max((((((((1))))))),(((((((1))))))));");
        read("heat max((((((((1))))))),((((((((1))))))));", 3, 32);
    }

    private void openFromTheirParenthesisOn() {
        e.promise(12, "min and max are open from their ( on)");
        read("heat ((((((((min(1,2)", 3, 16);
        read("heat ((((((((min 1", 1, 17);
        read("heat ((((((((min;", 1, 16);
        right("heat (((((((min(1,2))))))));");
        read("heat min 1", 1, 9);
        read("heat min -1", 1, 9);
    }

    private void eachOnce() {
        e.promise(12, "4 a word that stands once for the second time (at it)");
        for (String word : SUMS) {
            String once = word + " 1;";
            right(once);
            read(once + " " + word, 4, once.length() + 1);
            read(once + "beetle 1=1;" + word + "!", 4, once.length() + 11);
        }
        right("beetle 1=1;beetle 1=1;lay 0,1,0 on 0;lay 0,1,0 on 0;");
        right("dry 1;thick 1;stand 1;take 1;heat 1;");
    }

    private void namesOfEach() {
        e.promise(12, "5 a NAME that isn't of that CLAUSE (at it)");
        String[] names = {"water", "size", "kind", "bark", "high", "top", "beside", "sunny", "wind", "sun", "rain", "air", "week",
            "wide", "tall", "posts", "crossed"};
        for (String word : SUMS) {
            for (int i = 0; i < names.length; i++) {
                boolean ofAll = names[i].equals("week");
                boolean ofIt = word.equals("stand") ? i > 12 : word.equals("dry") ? i < 12 : i < 8;
                read(word + " " + names[i] + ";", ofAll || ofIt ? 0 : 5, word.length() + 1);
            }
        }
        for (int i = 0; i < names.length; i++) {
            read("beetle 1=" + names[i] + ";", i < 8 || i == 12 ? 0 : 5, 9);
        }
    }

    private void twentyClauses() {
        e.promise(12, "6 the 21st CLAUSE (at its first TOKEN)");
        String twenty = "beetle 1=1;".repeat(20);
        right(twenty);
        right(twenty + " \n ");
        for (String word : new String[] {"dry", "thick", "stand", "take", "heat", "beetle", "lay"}) {
            read(twenty + " \n" + word + " 1;", 6, 222);
        }
        read(twenty + ";", 1, 220);
        read("beetle 1=1;".repeat(19) + "beetle 1", 1, 217);
    }

    /** The heat of a split of size 10 and water 500 by a sum. */
    private void heat(String sum, int want) {
        WoodStack x = Check.ruled(2, "heat " + sum + ";");
        x.lay(0, 0, 10, 500);
        e.due(sum, x.of(0, 0, 7), want);
    }

    private void byZero() {
        e.promise(15, "/ cuts towards 0, by 0 it is 0");
        heat("7+5/0", 7);
        heat("7+0/0", 7);
        heat("7+-5/0", 7);
        heat("7+5/(size-10)", 7);
        heat("7+5/0*3", 7);
        heat("10+7/2", 13);
        heat("10+-7/2", 7);
        heat("10+7/-2", 7);
        heat("10+-7/-2", 13);
        heat("10+-1/2", 10);
    }

    private void aboveAMillion() {
        e.promise(15, "what is above 1000000 (below the same less) is that, at each step");
        heat("1000*1000/1000", 1000);
        heat("(1000*1000+1)/1000", 1000);
        heat("(1000*1000+1-1)/1000", 999);
        heat("(1000*1000-1+1-1)/1000", 999);
        heat("9999*9999/1000", 1000);
        heat("9999*9999*9999/1000", 1000);
        heat("9999*9999*9999*9999*9999*9999*9999/1000", 1000);
        heat("(9999*9999+9999*9999)/1000", 1000);
        heat("(9999*9999-9999*9999)+5", 5);
        heat("(0-9999*9999-9999*9999+9999*9999)+5", 5);
        heat("(1000*1000- -1000*1000)/1000", 1000);
    }

    private void belowTheSameLess() {
        e.promise(15, "what is above 1000000 (below the same less) is that, at each step");
        heat("-1000*1000/-1000", 1000);
        heat("(-1000*1000-1)/-1000", 1000);
        heat("(-1000*1000-1+1)/-1000", 999);
        heat("-9999*9999/-1000", 1000);
        heat("-9999*9999*9999*9999*9999/-1000", 1000);
        heat("-(9999*9999)/-1000", 1000);
        heat("--(9999*9999)/1000", 1000);
        heat("max(-9999*9999,-9999*9999)/-1000", 1000);
    }
}
