/** Promises 9 to 14: the tape, the texts that are read from it, their faults, and what they lay. */
public final class TextTest {
    private static final Check CHECK = new Check();

    public static void main(String[] args) {
        feed();
        end();
        text();
        fault();
        rightTexts();
        cantStand();
        wrongNumbers();
        tooDeep();
        twice();
        wrongNames();
        tooMany();
        by();
        laid();
        CHECK.finish();
    }

    private static void due(String call, long got, long want) {
        CHECK.due("Promise " + call, got, want);
    }

    private static void due(String call, boolean got, boolean want) {
        CHECK.due("Promise " + call, got, want);
    }

    private static void feed() {
        WoodStack x = new WoodStack(2);
        for (int i = 1; i <= 15; i++) {
            due("9: feed", x.feed(0, -1, Integer.MIN_VALUE, 7, i), 20 * i);
        }
        due("9: beyond 300", x.feed(0, 0, 0, 0, 0), -1);
        due("9: none came", x.about(8), 300);
        x.end(281);
        due("9: 281 and 20", x.feed(0, 0, 0, 0, 0), -1);
        x.end(280);
        due("9: 280 and 20", x.feed(0, 0, 0, 0, 0), 300);
        x.end(0);
        due("9: the highest of a first", x.feed(0x64727920, 0x313b2020, 0x20202020, 0x20202020, 0x20202020), 20);
        due("9: dry 1;", x.text(), 0);
        x.feed(0x64727920, 0x20202020, 0x20202020, 0x20202020, 0x20202080);
        due("9: the lowest of e last", x.text(), -1);
        due("9: at it", x.fault(1), 19);
    }

    private static void end() {
        WoodStack x = new WoodStack(2);
        due("10: of an empty tape", x.end(0), 0);
        due("10: it has none", x.end(1), -1);
        x.feed(1, 2, 3, 4, 5);
        due("10: 21 of 20", x.end(21), -1);
        due("10: -1", x.end(-1), -1);
        due("10: far below", x.end(Integer.MIN_VALUE), -1);
        due("10: nothing is done", x.about(8), 20);
        due("10: all of it", x.end(20), 20);
        due("10: seven", x.end(7), 7);
        due("10: it has seven", x.about(8), 7);
        due("10: eight are no more", x.end(8), -1);
        Check.tape(x, "dry 1;dry 2;");
        x.end(6);
        due("10: its first bytes stay", x.text(), 0);
    }

    private static void text() {
        WoodStack x = new WoodStack(2);
        due("11: an empty one", x.text(), 0);
        due("11: first", Check.read(x, "dry 1;"), 1);
        due("11: the tape is empty then", x.about(8), 0);
        due("11: a fault", Check.read(x, "dry"), -1);
        due("11: the tape is empty then too", x.about(8), 0);
        due("11: two of them", x.about(3), 2);
        due("11: third", Check.read(x, "heat 1;"), 2);
        due("11: fourth", Check.read(x, " \n "), 3);
        due("11: a fifth", Check.read(x, "dry 1"), -1);
        due("11: the tape stays", x.about(8), 5);
        due("11: it was not read", x.fault(0), 0);
        due("11: four of them", x.about(3), 4);
    }

    private static void fault() {
        WoodStack x = new WoodStack(2);
        due("12: ahead of any", x.fault(0), -1);
        due("12: ahead of any, place", x.fault(1), -1);
        Check.read(x, "dry 1;");
        due("12: without", x.fault(0), 0);
        due("12: without, place", x.fault(1), -1);
        Check.read(x, "dry 1");
        due("12: with", x.fault(0), 1);
        due("12: with, place", x.fault(1), 5);
        due("12: what 2", x.fault(2), -1);
        due("12: what -1", x.fault(-1), -1);
        x.back();
        due("12: stays when all goes back", x.fault(1), 5);
        x.image();
        Check.read(x, "dry 1;");
        due("12: the latest", x.fault(0), 0);
        due("12: the latest, place", x.fault(1), -1);
        for (int i = 0; i < 5; i++) {
            due("12: a long one", Check.read(x, "heat 1" + "+1".repeat(140) + "!"), -1);
        }
        x.lay(0, 0, 1, 1);
        x.by(Check.read(x, "heat 1" + "+1".repeat(140) + ";"));
        due("12: leaves nothing behind", x.of(0, 0, 7), 141);
    }

    /** Holds the fault of a text and its place; 0 for one without. */
    private static void read(String text, int fault, int place) {
        WoodStack x = new WoodStack(2);
        due("11: text() of " + text, Check.read(x, text), fault == 0 ? 0 : -1);
        due("12: fault(0) of " + text, x.fault(0), fault);
        due("12: fault(1) of " + text, x.fault(1), fault == 0 ? -1 : place);
    }

    private static void right(String text) {
        read(text, 0, -1);
    }

    private static void rightTexts() {
        right("");
        right("  \n\n ");
        right("dry1;thick2;stand3;take4;heat5;beetle 1=1;lay 0,1,0on0;");
        right("dry water+size-kind*bark/high+top+beside+sunny+wind+sun+rain+air+week;");
        right("thick water+size+kind+bark+high+top+beside+sunny+week;");
        right("take water+size+kind+bark+high+top+beside+sunny+week;");
        right("heat water+size+kind+bark+high+top+beside+sunny+week;");
        right("beetle water+size+kind+bark<high+top+beside+sunny+week;");
        right("stand wide+tall+posts+crossed+week;");
        right("beetle not not 1<2 and 3<=4 or 5>6 and not 7>=8 or 9=1 and 2#3;");
        right("beetle 1=1;beetle 1=1;lay 3,20,2000 on 5;lay 3,20,2000 on 5;");
        right("heat -1--1---1*-(2)/-min(1,max(2,3));");
        right("heat 9999+0009999+000000000000000000000000000000009;");
        right("dry\nwater\n;\n");
        right("heat ((((((((1))))))))+((((((((1))))))));");
        right("heat --------1+--------1;");
        right("beetle not not not not not not not not 1=1 and not not not not not not not not 1=1;");
        right("heat min(min(min(min(min(min(min(min(1,2),2),2),2),2),2),2),max(1,2));");
    }

    private static void cantStand() {
        read("wet 1;", 1, 0);
        read("Dry 1;", 1, 0);
        read("drys 1;", 1, 0);
        read("dr 1;", 1, 0);
        read("water 1;", 1, 0);
        read(";", 1, 0);
        read("1;", 1, 0);
        read("dry;", 1, 3);
        read("dry", 1, 3);
        read("dry 1", 1, 5);
        read("dry 1  ", 1, 7);
        read("dry 1 2;", 1, 6);
        read("dry 1 10000;", 1, 6);
        read("dry 1);", 1, 5);
        read("dry (1;", 1, 6);
        read("dry ();", 1, 5);
        read("dry 1,2;", 1, 5);
        read("dry +1;", 1, 4);
        read("dry 1+;", 1, 6);
        read("dry 1*/2;", 1, 6);
        read("dry 1<2;", 1, 5);
        read("dry not 1;", 1, 4);
        read("dry foo;", 1, 4);
        read("dry dry;", 1, 4);
        read("dry or;", 1, 4);
        read("dry 1 dry", 1, 6);
        read("dry 1;x", 1, 6);
        read("dry 1;;", 1, 6);
        read("dry 1\t;", 1, 5);
        read("dry 1\r;", 1, 5);
        read("dry !;", 1, 4);
        read("dry 1_", 1, 5);
        read("dry 1\u00e9;", 1, 5);
        read("dry 1\0;", 1, 5);
        read("dry 1.5;", 1, 5);
        read("dry min 1;", 1, 8);
        read("dry min;", 1, 7);
        read("dry max", 1, 7);
        read("dry min(1);", 1, 9);
        read("dry max(1,2;", 1, 11);
        read("dry max(1,2,3);", 1, 11);
        read("beetle 1;", 1, 8);
        read("beetle;", 1, 6);
        read("beetle 1=1=1;", 1, 10);
        read("beetle (1=1);", 1, 9);
        read("beetle 1=1 and;", 1, 14);
        read("beetle 1=1 or or 1=1;", 1, 14);
        read("beetle 1=1 not 1=1;", 1, 11);
        read("beetle not;", 1, 10);
        read("beetle 1<>1;", 1, 9);
        read("beetle 1=<1;", 1, 9);
        read("beetle 1< =1;", 1, 10);
        read("beetle 1>==1;", 1, 10);
        read("beetle 1##1;", 1, 9);
        read("lay;", 1, 3);
        read("lay -1,1,1 on 0;", 1, 4);
        read("lay 1 1,1 on 0;", 1, 6);
        read("lay 1,1,1,0;", 1, 9);
        read("lay 1,1,1 at 0;", 1, 10);
        read("lay 1,1,1 on;", 1, 12);
        read("lay 1,1,1 on 0", 1, 14);
        read("lay 1,1,water on 0;", 1, 8);
        read("lay 1+1,1,1 on 0;", 1, 5);
    }

    private static void wrongNumbers() {
        read("dry 10000;", 2, 4);
        read("dry 99999999999999999999;", 2, 4);
        read("dry 4294967296;", 2, 4);
        read("beetle 1=10000 or wet", 2, 9);
        read("lay 4,1,1 on 0;", 2, 4);
        read("lay 10000,1,1 on 0;", 2, 4);
        read("lay 0,0,1 on 0;", 2, 6);
        read("lay 0,21,1 on 0;", 2, 6);
        read("lay 0,1,2001 on 0;", 2, 8);
        read("lay 0,1,1 on 6;", 2, 13);
        right("lay 0,1,0 on 0;");
        right("lay 3,20,2000 on 5;");
    }

    private static void tooDeep() {
        read("heat (((((((((1", 3, 13);
        read("heat ---------1;", 3, 13);
        read("heat 1---------1;", 0, -1);
        read("heat 1----------1;", 3, 15);
        read("beetle not not not not not not not not not 1=1;", 3, 39);
        read("beetle not not not not ----(1)=1;", 3, 27);
        read("beetle not not not not ----1=1;", 0, -1);
        read("heat ((((((((min(1,2)", 3, 16);
        read("heat ((((((((min 1", 1, 17);
        read("heat (((((((min(1,2))))))));", 0, -1);
        read("heat (((((((min((1),2))))))));", 3, 16);
        read("heat (((((((min(1,(2)))))))));", 3, 18);
        read("heat max(1,((((((((1))))))));", 3, 18);
        read("heat ((((((((-1))))))));", 3, 13);
        read("heat ((((((((1))))))))+(((((((((1)))))))));", 3, 31);
        read("heat -(-(-(-(-1))));", 3, 13);
        read("heat -(-(-(-(1))));", 0, -1);
        read("heat ((((((((2)))))))-1);", 0, -1);
    }

    private static void twice() {
        String[] words = {"dry", "thick", "stand", "take", "heat"};
        for (String word : words) {
            String once = word + " 1;";
            read(once + once, 4, once.length());
        }
        read("dry 1;heat 1;dry", 4, 13);
        right("dry 1;heat 1;thick 1;take 1;stand 1;");
    }

    private static void wrongNames() {
        String[] stand = {"wide", "tall", "posts", "crossed"};
        String[] sky = {"wind", "sun", "rain", "air"};
        String[] split = {"water", "size", "kind", "bark", "high", "top", "beside", "sunny"};
        for (String name : stand) {
            read("dry 1+" + name + ";", 5, 6);
            read("thick " + name, 5, 6);
            read("take " + name, 5, 5);
            read("heat " + name, 5, 5);
            read("beetle " + name, 5, 7);
        }
        for (String name : sky) {
            read("stand " + name, 5, 6);
            read("thick " + name, 5, 6);
            read("take " + name, 5, 5);
            read("heat " + name, 5, 5);
            read("beetle " + name, 5, 7);
        }
        for (String name : split) {
            read("stand " + name, 5, 6);
        }
        read("lay water", 1, 4);
        read("dry 1 wide", 1, 6);
    }

    private static void tooMany() {
        String twenty = "beetle 1=1;".repeat(20);
        right(twenty);
        read(twenty + "beetle", 6, 220);
        read(twenty + " lay 9", 6, 221);
        read(twenty + "wet", 1, 220);
        read(twenty + "dry", 6, 220);
        String withDry = "dry 1;" + "lay 0,1,1on0;".repeat(19);
        right(withDry);
        read(withDry + "dry 1;", 4, withDry.length());
        read(withDry + "heat 1;", 6, withDry.length());
    }

    private static void by() {
        WoodStack x = new WoodStack(2);
        due("13: none there", x.by(0), false);
        due("13: none rules", x.by(-1), true);
        Check.read(x, "heat 7;");
        Check.read(x, "heat 9;");
        x.lay(0, 0, 10, 500);
        due("13: a text that is read does not rule yet", x.of(0, 0, 7), 200);
        due("13: first", x.by(0), true);
        due("13: rules", x.of(0, 0, 7), 7);
        due("13: second", x.by(1), true);
        due("13: rules now", x.of(0, 0, 7), 9);
        due("13: 2 of 2", x.by(2), false);
        due("13: -2", x.by(-2), false);
        due("13: unchanged", x.about(4), 1);
        due("13: none", x.by(-1), true);
        due("13: without", x.of(0, 0, 7), 200);
    }

    private static void laid() {
        WoodStack x = new WoodStack(3);
        due("14: none there", x.laid(0), -2);
        due("14: -1", x.laid(-1), -2);
        Check.read(x, "heat 5;lay 3,20,2000 on 2;beetle 1=1;lay 1,2,3 on 2;lay 0,4,5 on 0;");
        Check.read(x, "lay 0,1,1 on 0;heat 1;lay 0,2,1 on 3;lay 0,1,1 on 1;");
        Check.read(x, "");
        Check.read(x, "lay 0,1,1on0;".repeat(9));
        x.lay(1, 0, 9, 9);
        due("14: all is done", x.laid(0), -1);
        due("14: what lay is gone", x.stack(21), 0);
        due("14: three", x.stack(3), 3);
        due("14: kind", x.of(2, 0, 0), 3);
        due("14: size", x.of(2, 0, 1), 20);
        due("14: water", x.of(2, 0, 2), 2000);
        due("14: on top of it", x.of(2, 1, 2), 3);
        due("14: bark up", x.of(2, 1, 3), 1);
        due("14: column", x.of(0, 0, 2), 5);
        due("14: it does not rule", x.about(4), -1);
        due("14: column 3 of 3", x.laid(1), 2);
        due("14: what was done stays", x.stack(3), 1);
        due("14: nothing behind it", x.stack(21), 0);
        due("14: the ninth", x.laid(3), 8);
        due("14: eight lie", x.stack(20), 8);
        x.weather(0, 0, 0, 0);
        x.week(0);
        due("14: fallen", x.stack(2), 1);
        due("14: 4 of 4", x.laid(4), -2);
        due("14: still fallen", x.stack(2), 1);
        due("14: of nothing", x.laid(2), -1);
        due("14: nothing lies", x.stack(3), 0);
        due("14: it isn't fallen", x.stack(2), -1);
        due("14: the week stays", x.about(1), 1);
        due("14: it can be laid again", x.lay(0, 0, 1, 1), 0);
    }
}
